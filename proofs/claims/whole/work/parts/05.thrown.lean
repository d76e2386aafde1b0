/-! A throw of the class: where its words stand. Laid by program. -/
theorem ow_54 : ∀ w ∈ Bundle.ownAtoms "BootChain" 54 "java/lang/IllegalArgumentException" bc_up, ((w.onTables && w.keepsFace) = true ∧ (w ∈ bc_G ∨ w ∈ bc_face)) ∨ w ∈ tx_four := by
  intro w hw
  have h2 : w ∈ [(Cond.initialized "java/lang/Throwable"), (Cond.superclass "java/lang/Throwable" "java/lang/Object"), (Cond.instanceMethod ⟨"java/lang/Throwable", "fillInStackTrace", "()Ljava/lang/Throwable;"⟩), (Cond.codeSync ⟨"java/lang/Throwable", "fillInStackTrace", "()Ljava/lang/Throwable;"⟩ prog_14_method_18_code 1 (some (.object "java/lang/Throwable"))), (Cond.instanceMethod ⟨"java/lang/Throwable", "fillInStackTrace", "(I)Ljava/lang/Throwable;"⟩), (Cond.native ⟨"java/lang/Throwable", "fillInStackTrace", "(I)Ljava/lang/Throwable;"⟩), (Cond.instanceMethod ⟨"java/lang/Throwable", "<init>", "()V"⟩), (Cond.code ⟨"java/lang/Throwable", "<init>", "()V"⟩ prog_14_method_1_code 1 none), (Cond.instanceMethod ⟨"java/lang/Object", "<init>", "()V"⟩), (Cond.code ⟨"java/lang/Object", "<init>", "()V"⟩ object_method_1_code 1 none), (Cond.methodLink "java/lang/Throwable" 1 ⟨"java/lang/Object", "<init>", "()V"⟩), (Cond.methodLink "java/lang/Throwable" 27 ⟨"java/lang/Throwable", "fillInStackTrace", "()Ljava/lang/Throwable;"⟩), (Cond.methodLink "java/lang/Throwable" 202 ⟨"java/lang/Throwable", "fillInStackTrace", "(I)Ljava/lang/Throwable;"⟩), (Cond.fieldLink "java/lang/Throwable" 7 "java/lang/Throwable" "cause" "Ljava/lang/Throwable;"), (Cond.lays "java/lang/Throwable" "java/lang/Throwable" "cause" "Ljava/lang/Throwable;"), (Cond.fieldLink "java/lang/Throwable" 17 "java/lang/Throwable" "stackTrace" "[Ljava/lang/StackTraceElement;"), (Cond.lays "java/lang/Throwable" "java/lang/Throwable" "stackTrace" "[Ljava/lang/StackTraceElement;"), (Cond.fieldLink "java/lang/Throwable" 24 "java/lang/Throwable" "suppressedExceptions" "Ljava/util/List;"), (Cond.lays "java/lang/Throwable" "java/lang/Throwable" "suppressedExceptions" "Ljava/util/List;"), (Cond.fieldLink "java/lang/Throwable" 13 "java/lang/Throwable" "UNASSIGNED_STACK" "[Ljava/lang/StackTraceElement;"), (Cond.laysStatic "java/lang/Throwable" "UNASSIGNED_STACK" "[Ljava/lang/StackTraceElement;"), (Cond.fieldLink "java/lang/Throwable" 20 "java/lang/Throwable" "SUPPRESSED_SENTINEL" "Ljava/util/List;"), (Cond.laysStatic "java/lang/Throwable" "SUPPRESSED_SENTINEL" "Ljava/util/List;"), (Cond.lays "java/lang/Throwable" "java/lang/Throwable" "detailMessage" "Ljava/lang/String;"), (Cond.instanceMethod ⟨"java/lang/Throwable", "<init>", "(Ljava/lang/String;)V"⟩), (Cond.code ⟨"java/lang/Throwable", "<init>", "(Ljava/lang/String;)V"⟩ prog_14_method_2_code 2 none), (Cond.fieldLink "java/lang/Throwable" 31 "java/lang/Throwable" "detailMessage" "Ljava/lang/String;"), (Cond.lays "java/lang/Throwable" "java/lang/Throwable" "detailMessage" "Ljava/lang/String;"), (Cond.instanceMethod ⟨"java/lang/IllegalArgumentException", "<init>", "(Ljava/lang/String;)V"⟩), (Cond.code ⟨"java/lang/IllegalArgumentException", "<init>", "(Ljava/lang/String;)V"⟩ prog_10_method_2_code 2 none), (Cond.methodLink "java/lang/IllegalArgumentException" 7 ⟨"java/lang/RuntimeException", "<init>", "(Ljava/lang/String;)V"⟩), (Cond.instanceMethod ⟨"java/lang/RuntimeException", "<init>", "(Ljava/lang/String;)V"⟩), (Cond.declares ⟨"java/lang/RuntimeException", "<init>", "(Ljava/lang/String;)V"⟩), (Cond.instanceMethod ⟨"java/lang/RuntimeException", "<init>", "(Ljava/lang/String;)V"⟩), (Cond.code ⟨"java/lang/RuntimeException", "<init>", "(Ljava/lang/String;)V"⟩ prog_12_method_2_code 2 none), (Cond.methodLink "java/lang/RuntimeException" 7 ⟨"java/lang/Exception", "<init>", "(Ljava/lang/String;)V"⟩), (Cond.instanceMethod ⟨"java/lang/Exception", "<init>", "(Ljava/lang/String;)V"⟩), (Cond.declares ⟨"java/lang/Exception", "<init>", "(Ljava/lang/String;)V"⟩), (Cond.instanceMethod ⟨"java/lang/Exception", "<init>", "(Ljava/lang/String;)V"⟩), (Cond.code ⟨"java/lang/Exception", "<init>", "(Ljava/lang/String;)V"⟩ prog_9_method_2_code 2 none), (Cond.methodLink "java/lang/Exception" 7 ⟨"java/lang/Throwable", "<init>", "(Ljava/lang/String;)V"⟩), (Cond.instanceMethod ⟨"java/lang/Throwable", "<init>", "(Ljava/lang/String;)V"⟩), (Cond.declares ⟨"java/lang/Throwable", "<init>", "(Ljava/lang/String;)V"⟩), (Cond.methodLink "BootChain" 54 ⟨"java/lang/IllegalArgumentException", "<init>", "(Ljava/lang/String;)V"⟩), (Cond.instantiable "java/lang/IllegalArgumentException" 6), (Cond.castable "java/lang/IllegalArgumentException" "java/lang/IllegalArgumentException"), (Cond.selects "java/lang/IllegalArgumentException" ⟨"java/lang/Throwable", "fillInStackTrace", "(I)Ljava/lang/Throwable;"⟩ ⟨"java/lang/Throwable", "fillInStackTrace", "(I)Ljava/lang/Throwable;"⟩), (Cond.selects "java/lang/IllegalArgumentException" ⟨"java/lang/Throwable", "fillInStackTrace", "()Ljava/lang/Throwable;"⟩ ⟨"java/lang/Throwable", "fillInStackTrace", "()Ljava/lang/Throwable;"⟩), (Cond.lays "java/lang/IllegalArgumentException" "java/lang/Throwable" "cause" "Ljava/lang/Throwable;"), (Cond.lays "java/lang/IllegalArgumentException" "java/lang/Throwable" "stackTrace" "[Ljava/lang/StackTraceElement;"), (Cond.lays "java/lang/IllegalArgumentException" "java/lang/Throwable" "suppressedExceptions" "Ljava/util/List;"), (Cond.lays "java/lang/IllegalArgumentException" "java/lang/Throwable" "detailMessage" "Ljava/lang/String;"), (Cond.isRef (.static "java/lang/Throwable" "UNASSIGNED_STACK" "[Ljava/lang/StackTraceElement;")), (Cond.isRef (.static "java/lang/Throwable" "SUPPRESSED_SENTINEL" "Ljava/util/List;")), (Cond.fieldLink "java/lang/Throwable" 198 "java/lang/Throwable" "backtrace" "Ljava/lang/Object;"), (Cond.lays "java/lang/Throwable" "java/lang/Throwable" "backtrace" "Ljava/lang/Object;"), (Cond.lays "java/lang/IllegalArgumentException" "java/lang/Throwable" "backtrace" "Ljava/lang/Object;")] := hw
  clear hw
  rcases List.mem_cons.mp h2 with rfl | h2
  · exact Or.inl ⟨rfl, Or.inl gw_7⟩
  rcases List.mem_cons.mp h2 with rfl | h2
  · exact Or.inl ⟨rfl, Or.inl gw_133⟩
  rcases List.mem_cons.mp h2 with rfl | h2
  · exact Or.inl ⟨rfl, Or.inl gw_140⟩
  rcases List.mem_cons.mp h2 with rfl | h2
  · exact Or.inl ⟨rfl, Or.inl gw_143⟩
  rcases List.mem_cons.mp h2 with rfl | h2
  · exact Or.inl ⟨rfl, Or.inl gw_145⟩
  rcases List.mem_cons.mp h2 with rfl | h2
  · exact Or.inl ⟨rfl, Or.inl gw_147⟩
  rcases List.mem_cons.mp h2 with rfl | h2
  · exact Or.inl ⟨rfl, Or.inl gw_134⟩
  rcases List.mem_cons.mp h2 with rfl | h2
  · exact Or.inl ⟨rfl, Or.inl gw_135⟩
  rcases List.mem_cons.mp h2 with rfl | h2
  · exact Or.inl ⟨rfl, Or.inl gw_20⟩
  rcases List.mem_cons.mp h2 with rfl | h2
  · exact Or.inl ⟨rfl, Or.inl gw_21⟩
  rcases List.mem_cons.mp h2 with rfl | h2
  · exact Or.inl ⟨rfl, Or.inl gw_136⟩
  rcases List.mem_cons.mp h2 with rfl | h2
  · exact Or.inl ⟨rfl, Or.inl gw_139⟩
  rcases List.mem_cons.mp h2 with rfl | h2
  · exact Or.inl ⟨rfl, Or.inl gw_144⟩
  rcases List.mem_cons.mp h2 with rfl | h2
  · exact Or.inl ⟨rfl, Or.inl gw_161⟩
  rcases List.mem_cons.mp h2 with rfl | h2
  · exact Or.inl ⟨rfl, Or.inl gw_123⟩
  rcases List.mem_cons.mp h2 with rfl | h2
  · exact Or.inl ⟨rfl, Or.inl gw_162⟩
  rcases List.mem_cons.mp h2 with rfl | h2
  · exact Or.inl ⟨rfl, Or.inl gw_125⟩
  rcases List.mem_cons.mp h2 with rfl | h2
  · exact Or.inl ⟨rfl, Or.inl gw_163⟩
  rcases List.mem_cons.mp h2 with rfl | h2
  · exact Or.inl ⟨rfl, Or.inl gw_127⟩
  rcases List.mem_cons.mp h2 with rfl | h2
  · exact Or.inl ⟨rfl, Or.inl gw_137⟩
  rcases List.mem_cons.mp h2 with rfl | h2
  · exact Or.inr (List.mem_of_getElem? (i := 0) rfl)
  rcases List.mem_cons.mp h2 with rfl | h2
  · exact Or.inl ⟨rfl, Or.inl gw_138⟩
  rcases List.mem_cons.mp h2 with rfl | h2
  · exact Or.inr (List.mem_of_getElem? (i := 2) rfl)
  rcases List.mem_cons.mp h2 with rfl | h2
  · exact Or.inl ⟨rfl, Or.inl gw_129⟩
  rcases List.mem_cons.mp h2 with rfl | h2
  · exact Or.inl ⟨rfl, Or.inl gw_158⟩
  rcases List.mem_cons.mp h2 with rfl | h2
  · exact Or.inl ⟨rfl, Or.inl gw_159⟩
  rcases List.mem_cons.mp h2 with rfl | h2
  · exact Or.inl ⟨rfl, Or.inl gw_160⟩
  rcases List.mem_cons.mp h2 with rfl | h2
  · exact Or.inl ⟨rfl, Or.inl gw_129⟩
  rcases List.mem_cons.mp h2 with rfl | h2
  · exact Or.inl ⟨rfl, Or.inl gw_149⟩
  rcases List.mem_cons.mp h2 with rfl | h2
  · exact Or.inl ⟨rfl, Or.inl gw_150⟩
  rcases List.mem_cons.mp h2 with rfl | h2
  · exact Or.inl ⟨rfl, Or.inl gw_151⟩
  rcases List.mem_cons.mp h2 with rfl | h2
  · exact Or.inl ⟨rfl, Or.inl gw_152⟩
  rcases List.mem_cons.mp h2 with rfl | h2
  · exact Or.inl ⟨rfl, Or.inr (List.mem_of_getElem? (i := 2) rfl)⟩
  rcases List.mem_cons.mp h2 with rfl | h2
  · exact Or.inl ⟨rfl, Or.inl gw_152⟩
  rcases List.mem_cons.mp h2 with rfl | h2
  · exact Or.inl ⟨rfl, Or.inl gw_153⟩
  rcases List.mem_cons.mp h2 with rfl | h2
  · exact Or.inl ⟨rfl, Or.inl gw_154⟩
  rcases List.mem_cons.mp h2 with rfl | h2
  · exact Or.inl ⟨rfl, Or.inl gw_155⟩
  rcases List.mem_cons.mp h2 with rfl | h2
  · exact Or.inl ⟨rfl, Or.inr (List.mem_of_getElem? (i := 4) rfl)⟩
  rcases List.mem_cons.mp h2 with rfl | h2
  · exact Or.inl ⟨rfl, Or.inl gw_155⟩
  rcases List.mem_cons.mp h2 with rfl | h2
  · exact Or.inl ⟨rfl, Or.inl gw_156⟩
  rcases List.mem_cons.mp h2 with rfl | h2
  · exact Or.inl ⟨rfl, Or.inl gw_157⟩
  rcases List.mem_cons.mp h2 with rfl | h2
  · exact Or.inl ⟨rfl, Or.inl gw_158⟩
  rcases List.mem_cons.mp h2 with rfl | h2
  · exact Or.inl ⟨rfl, Or.inr (List.mem_of_getElem? (i := 6) rfl)⟩
  rcases List.mem_cons.mp h2 with rfl | h2
  · exact Or.inl ⟨rfl, Or.inl gw_148⟩
  rcases List.mem_cons.mp h2 with rfl | h2
  · exact Or.inl ⟨rfl, Or.inl gw_119⟩
  rcases List.mem_cons.mp h2 with rfl | h2
  · exact Or.inl ⟨rfl, Or.inr (List.mem_of_getElem? (i := 0) rfl)⟩
  rcases List.mem_cons.mp h2 with rfl | h2
  · exact Or.inl ⟨rfl, Or.inl gw_120⟩
  rcases List.mem_cons.mp h2 with rfl | h2
  · exact Or.inl ⟨rfl, Or.inl gw_121⟩
  rcases List.mem_cons.mp h2 with rfl | h2
  · exact Or.inl ⟨rfl, Or.inl gw_122⟩
  rcases List.mem_cons.mp h2 with rfl | h2
  · exact Or.inl ⟨rfl, Or.inl gw_124⟩
  rcases List.mem_cons.mp h2 with rfl | h2
  · exact Or.inl ⟨rfl, Or.inl gw_126⟩
  rcases List.mem_cons.mp h2 with rfl | h2
  · exact Or.inl ⟨rfl, Or.inl gw_128⟩
  rcases List.mem_cons.mp h2 with rfl | h2
  · exact Or.inr (List.mem_of_getElem? (i := 1) rfl)
  rcases List.mem_cons.mp h2 with rfl | h2
  · exact Or.inr (List.mem_of_getElem? (i := 3) rfl)
  rcases List.mem_cons.mp h2 with rfl | h2
  · exact Or.inl ⟨rfl, Or.inl gw_132⟩
  rcases List.mem_cons.mp h2 with rfl | h2
  · exact Or.inl ⟨rfl, Or.inl gw_131⟩
  rcases List.mem_cons.mp h2 with rfl | h2
  · exact Or.inl ⟨rfl, Or.inl gw_130⟩
  exact absurd h2 List.not_mem_nil
theorem ow_65 : ∀ w ∈ Bundle.ownAtoms "BootChain" 65 "java/lang/IllegalStateException" bc_up, ((w.onTables && w.keepsFace) = true ∧ (w ∈ bc_G ∨ w ∈ bc_face)) ∨ w ∈ tx_four := by
  intro w hw
  have h2 : w ∈ [(Cond.initialized "java/lang/Throwable"), (Cond.superclass "java/lang/Throwable" "java/lang/Object"), (Cond.instanceMethod ⟨"java/lang/Throwable", "fillInStackTrace", "()Ljava/lang/Throwable;"⟩), (Cond.codeSync ⟨"java/lang/Throwable", "fillInStackTrace", "()Ljava/lang/Throwable;"⟩ prog_14_method_18_code 1 (some (.object "java/lang/Throwable"))), (Cond.instanceMethod ⟨"java/lang/Throwable", "fillInStackTrace", "(I)Ljava/lang/Throwable;"⟩), (Cond.native ⟨"java/lang/Throwable", "fillInStackTrace", "(I)Ljava/lang/Throwable;"⟩), (Cond.instanceMethod ⟨"java/lang/Throwable", "<init>", "()V"⟩), (Cond.code ⟨"java/lang/Throwable", "<init>", "()V"⟩ prog_14_method_1_code 1 none), (Cond.instanceMethod ⟨"java/lang/Object", "<init>", "()V"⟩), (Cond.code ⟨"java/lang/Object", "<init>", "()V"⟩ object_method_1_code 1 none), (Cond.methodLink "java/lang/Throwable" 1 ⟨"java/lang/Object", "<init>", "()V"⟩), (Cond.methodLink "java/lang/Throwable" 27 ⟨"java/lang/Throwable", "fillInStackTrace", "()Ljava/lang/Throwable;"⟩), (Cond.methodLink "java/lang/Throwable" 202 ⟨"java/lang/Throwable", "fillInStackTrace", "(I)Ljava/lang/Throwable;"⟩), (Cond.fieldLink "java/lang/Throwable" 7 "java/lang/Throwable" "cause" "Ljava/lang/Throwable;"), (Cond.lays "java/lang/Throwable" "java/lang/Throwable" "cause" "Ljava/lang/Throwable;"), (Cond.fieldLink "java/lang/Throwable" 17 "java/lang/Throwable" "stackTrace" "[Ljava/lang/StackTraceElement;"), (Cond.lays "java/lang/Throwable" "java/lang/Throwable" "stackTrace" "[Ljava/lang/StackTraceElement;"), (Cond.fieldLink "java/lang/Throwable" 24 "java/lang/Throwable" "suppressedExceptions" "Ljava/util/List;"), (Cond.lays "java/lang/Throwable" "java/lang/Throwable" "suppressedExceptions" "Ljava/util/List;"), (Cond.fieldLink "java/lang/Throwable" 13 "java/lang/Throwable" "UNASSIGNED_STACK" "[Ljava/lang/StackTraceElement;"), (Cond.laysStatic "java/lang/Throwable" "UNASSIGNED_STACK" "[Ljava/lang/StackTraceElement;"), (Cond.fieldLink "java/lang/Throwable" 20 "java/lang/Throwable" "SUPPRESSED_SENTINEL" "Ljava/util/List;"), (Cond.laysStatic "java/lang/Throwable" "SUPPRESSED_SENTINEL" "Ljava/util/List;"), (Cond.lays "java/lang/Throwable" "java/lang/Throwable" "detailMessage" "Ljava/lang/String;"), (Cond.instanceMethod ⟨"java/lang/Throwable", "<init>", "(Ljava/lang/String;)V"⟩), (Cond.code ⟨"java/lang/Throwable", "<init>", "(Ljava/lang/String;)V"⟩ prog_14_method_2_code 2 none), (Cond.fieldLink "java/lang/Throwable" 31 "java/lang/Throwable" "detailMessage" "Ljava/lang/String;"), (Cond.lays "java/lang/Throwable" "java/lang/Throwable" "detailMessage" "Ljava/lang/String;"), (Cond.instanceMethod ⟨"java/lang/IllegalStateException", "<init>", "(Ljava/lang/String;)V"⟩), (Cond.code ⟨"java/lang/IllegalStateException", "<init>", "(Ljava/lang/String;)V"⟩ prog_11_method_2_code 2 none), (Cond.methodLink "java/lang/IllegalStateException" 7 ⟨"java/lang/RuntimeException", "<init>", "(Ljava/lang/String;)V"⟩), (Cond.instanceMethod ⟨"java/lang/RuntimeException", "<init>", "(Ljava/lang/String;)V"⟩), (Cond.declares ⟨"java/lang/RuntimeException", "<init>", "(Ljava/lang/String;)V"⟩), (Cond.instanceMethod ⟨"java/lang/RuntimeException", "<init>", "(Ljava/lang/String;)V"⟩), (Cond.code ⟨"java/lang/RuntimeException", "<init>", "(Ljava/lang/String;)V"⟩ prog_12_method_2_code 2 none), (Cond.methodLink "java/lang/RuntimeException" 7 ⟨"java/lang/Exception", "<init>", "(Ljava/lang/String;)V"⟩), (Cond.instanceMethod ⟨"java/lang/Exception", "<init>", "(Ljava/lang/String;)V"⟩), (Cond.declares ⟨"java/lang/Exception", "<init>", "(Ljava/lang/String;)V"⟩), (Cond.instanceMethod ⟨"java/lang/Exception", "<init>", "(Ljava/lang/String;)V"⟩), (Cond.code ⟨"java/lang/Exception", "<init>", "(Ljava/lang/String;)V"⟩ prog_9_method_2_code 2 none), (Cond.methodLink "java/lang/Exception" 7 ⟨"java/lang/Throwable", "<init>", "(Ljava/lang/String;)V"⟩), (Cond.instanceMethod ⟨"java/lang/Throwable", "<init>", "(Ljava/lang/String;)V"⟩), (Cond.declares ⟨"java/lang/Throwable", "<init>", "(Ljava/lang/String;)V"⟩), (Cond.methodLink "BootChain" 65 ⟨"java/lang/IllegalStateException", "<init>", "(Ljava/lang/String;)V"⟩), (Cond.instantiable "java/lang/IllegalStateException" 6), (Cond.castable "java/lang/IllegalStateException" "java/lang/IllegalStateException"), (Cond.selects "java/lang/IllegalStateException" ⟨"java/lang/Throwable", "fillInStackTrace", "(I)Ljava/lang/Throwable;"⟩ ⟨"java/lang/Throwable", "fillInStackTrace", "(I)Ljava/lang/Throwable;"⟩), (Cond.selects "java/lang/IllegalStateException" ⟨"java/lang/Throwable", "fillInStackTrace", "()Ljava/lang/Throwable;"⟩ ⟨"java/lang/Throwable", "fillInStackTrace", "()Ljava/lang/Throwable;"⟩), (Cond.lays "java/lang/IllegalStateException" "java/lang/Throwable" "cause" "Ljava/lang/Throwable;"), (Cond.lays "java/lang/IllegalStateException" "java/lang/Throwable" "stackTrace" "[Ljava/lang/StackTraceElement;"), (Cond.lays "java/lang/IllegalStateException" "java/lang/Throwable" "suppressedExceptions" "Ljava/util/List;"), (Cond.lays "java/lang/IllegalStateException" "java/lang/Throwable" "detailMessage" "Ljava/lang/String;"), (Cond.isRef (.static "java/lang/Throwable" "UNASSIGNED_STACK" "[Ljava/lang/StackTraceElement;")), (Cond.isRef (.static "java/lang/Throwable" "SUPPRESSED_SENTINEL" "Ljava/util/List;")), (Cond.fieldLink "java/lang/Throwable" 198 "java/lang/Throwable" "backtrace" "Ljava/lang/Object;"), (Cond.lays "java/lang/Throwable" "java/lang/Throwable" "backtrace" "Ljava/lang/Object;"), (Cond.lays "java/lang/IllegalStateException" "java/lang/Throwable" "backtrace" "Ljava/lang/Object;")] := hw
  clear hw
  rcases List.mem_cons.mp h2 with rfl | h2
  · exact Or.inl ⟨rfl, Or.inl gw_7⟩
  rcases List.mem_cons.mp h2 with rfl | h2
  · exact Or.inl ⟨rfl, Or.inl gw_133⟩
  rcases List.mem_cons.mp h2 with rfl | h2
  · exact Or.inl ⟨rfl, Or.inl gw_140⟩
  rcases List.mem_cons.mp h2 with rfl | h2
  · exact Or.inl ⟨rfl, Or.inl gw_143⟩
  rcases List.mem_cons.mp h2 with rfl | h2
  · exact Or.inl ⟨rfl, Or.inl gw_145⟩
  rcases List.mem_cons.mp h2 with rfl | h2
  · exact Or.inl ⟨rfl, Or.inl gw_147⟩
  rcases List.mem_cons.mp h2 with rfl | h2
  · exact Or.inl ⟨rfl, Or.inl gw_134⟩
  rcases List.mem_cons.mp h2 with rfl | h2
  · exact Or.inl ⟨rfl, Or.inl gw_135⟩
  rcases List.mem_cons.mp h2 with rfl | h2
  · exact Or.inl ⟨rfl, Or.inl gw_20⟩
  rcases List.mem_cons.mp h2 with rfl | h2
  · exact Or.inl ⟨rfl, Or.inl gw_21⟩
  rcases List.mem_cons.mp h2 with rfl | h2
  · exact Or.inl ⟨rfl, Or.inl gw_136⟩
  rcases List.mem_cons.mp h2 with rfl | h2
  · exact Or.inl ⟨rfl, Or.inl gw_139⟩
  rcases List.mem_cons.mp h2 with rfl | h2
  · exact Or.inl ⟨rfl, Or.inl gw_144⟩
  rcases List.mem_cons.mp h2 with rfl | h2
  · exact Or.inl ⟨rfl, Or.inl gw_161⟩
  rcases List.mem_cons.mp h2 with rfl | h2
  · exact Or.inl ⟨rfl, Or.inl gw_123⟩
  rcases List.mem_cons.mp h2 with rfl | h2
  · exact Or.inl ⟨rfl, Or.inl gw_162⟩
  rcases List.mem_cons.mp h2 with rfl | h2
  · exact Or.inl ⟨rfl, Or.inl gw_125⟩
  rcases List.mem_cons.mp h2 with rfl | h2
  · exact Or.inl ⟨rfl, Or.inl gw_163⟩
  rcases List.mem_cons.mp h2 with rfl | h2
  · exact Or.inl ⟨rfl, Or.inl gw_127⟩
  rcases List.mem_cons.mp h2 with rfl | h2
  · exact Or.inl ⟨rfl, Or.inl gw_137⟩
  rcases List.mem_cons.mp h2 with rfl | h2
  · exact Or.inr (List.mem_of_getElem? (i := 0) rfl)
  rcases List.mem_cons.mp h2 with rfl | h2
  · exact Or.inl ⟨rfl, Or.inl gw_138⟩
  rcases List.mem_cons.mp h2 with rfl | h2
  · exact Or.inr (List.mem_of_getElem? (i := 2) rfl)
  rcases List.mem_cons.mp h2 with rfl | h2
  · exact Or.inl ⟨rfl, Or.inl gw_129⟩
  rcases List.mem_cons.mp h2 with rfl | h2
  · exact Or.inl ⟨rfl, Or.inl gw_158⟩
  rcases List.mem_cons.mp h2 with rfl | h2
  · exact Or.inl ⟨rfl, Or.inl gw_159⟩
  rcases List.mem_cons.mp h2 with rfl | h2
  · exact Or.inl ⟨rfl, Or.inl gw_160⟩
  rcases List.mem_cons.mp h2 with rfl | h2
  · exact Or.inl ⟨rfl, Or.inl gw_129⟩
  rcases List.mem_cons.mp h2 with rfl | h2
  · exact Or.inl ⟨rfl, Or.inl gw_180⟩
  rcases List.mem_cons.mp h2 with rfl | h2
  · exact Or.inl ⟨rfl, Or.inl gw_181⟩
  rcases List.mem_cons.mp h2 with rfl | h2
  · exact Or.inl ⟨rfl, Or.inl gw_182⟩
  rcases List.mem_cons.mp h2 with rfl | h2
  · exact Or.inl ⟨rfl, Or.inl gw_152⟩
  rcases List.mem_cons.mp h2 with rfl | h2
  · exact Or.inl ⟨rfl, Or.inr (List.mem_of_getElem? (i := 2) rfl)⟩
  rcases List.mem_cons.mp h2 with rfl | h2
  · exact Or.inl ⟨rfl, Or.inl gw_152⟩
  rcases List.mem_cons.mp h2 with rfl | h2
  · exact Or.inl ⟨rfl, Or.inl gw_153⟩
  rcases List.mem_cons.mp h2 with rfl | h2
  · exact Or.inl ⟨rfl, Or.inl gw_154⟩
  rcases List.mem_cons.mp h2 with rfl | h2
  · exact Or.inl ⟨rfl, Or.inl gw_155⟩
  rcases List.mem_cons.mp h2 with rfl | h2
  · exact Or.inl ⟨rfl, Or.inr (List.mem_of_getElem? (i := 4) rfl)⟩
  rcases List.mem_cons.mp h2 with rfl | h2
  · exact Or.inl ⟨rfl, Or.inl gw_155⟩
  rcases List.mem_cons.mp h2 with rfl | h2
  · exact Or.inl ⟨rfl, Or.inl gw_156⟩
  rcases List.mem_cons.mp h2 with rfl | h2
  · exact Or.inl ⟨rfl, Or.inl gw_157⟩
  rcases List.mem_cons.mp h2 with rfl | h2
  · exact Or.inl ⟨rfl, Or.inl gw_158⟩
  rcases List.mem_cons.mp h2 with rfl | h2
  · exact Or.inl ⟨rfl, Or.inr (List.mem_of_getElem? (i := 6) rfl)⟩
  rcases List.mem_cons.mp h2 with rfl | h2
  · exact Or.inl ⟨rfl, Or.inl gw_179⟩
  rcases List.mem_cons.mp h2 with rfl | h2
  · exact Or.inl ⟨rfl, Or.inl gw_172⟩
  rcases List.mem_cons.mp h2 with rfl | h2
  · exact Or.inl ⟨rfl, Or.inr (List.mem_of_getElem? (i := 7) rfl)⟩
  rcases List.mem_cons.mp h2 with rfl | h2
  · exact Or.inl ⟨rfl, Or.inl gw_173⟩
  rcases List.mem_cons.mp h2 with rfl | h2
  · exact Or.inl ⟨rfl, Or.inl gw_141⟩
  rcases List.mem_cons.mp h2 with rfl | h2
  · exact Or.inl ⟨rfl, Or.inl gw_174⟩
  rcases List.mem_cons.mp h2 with rfl | h2
  · exact Or.inl ⟨rfl, Or.inl gw_175⟩
  rcases List.mem_cons.mp h2 with rfl | h2
  · exact Or.inl ⟨rfl, Or.inl gw_176⟩
  rcases List.mem_cons.mp h2 with rfl | h2
  · exact Or.inl ⟨rfl, Or.inl gw_177⟩
  rcases List.mem_cons.mp h2 with rfl | h2
  · exact Or.inr (List.mem_of_getElem? (i := 1) rfl)
  rcases List.mem_cons.mp h2 with rfl | h2
  · exact Or.inr (List.mem_of_getElem? (i := 3) rfl)
  rcases List.mem_cons.mp h2 with rfl | h2
  · exact Or.inl ⟨rfl, Or.inl gw_132⟩
  rcases List.mem_cons.mp h2 with rfl | h2
  · exact Or.inl ⟨rfl, Or.inl gw_131⟩
  rcases List.mem_cons.mp h2 with rfl | h2
  · exact Or.inl ⟨rfl, Or.inl gw_178⟩
  exact absurd h2 List.not_mem_nil
theorem ow_136 : ∀ w ∈ Bundle.ownAtoms "BootChain" 136 "java/lang/UnsupportedOperationException" bc_up, ((w.onTables && w.keepsFace) = true ∧ (w ∈ bc_G ∨ w ∈ bc_face)) ∨ w ∈ tx_four := by
  intro w hw
  have h2 : w ∈ [(Cond.initialized "java/lang/Throwable"), (Cond.superclass "java/lang/Throwable" "java/lang/Object"), (Cond.instanceMethod ⟨"java/lang/Throwable", "fillInStackTrace", "()Ljava/lang/Throwable;"⟩), (Cond.codeSync ⟨"java/lang/Throwable", "fillInStackTrace", "()Ljava/lang/Throwable;"⟩ prog_14_method_18_code 1 (some (.object "java/lang/Throwable"))), (Cond.instanceMethod ⟨"java/lang/Throwable", "fillInStackTrace", "(I)Ljava/lang/Throwable;"⟩), (Cond.native ⟨"java/lang/Throwable", "fillInStackTrace", "(I)Ljava/lang/Throwable;"⟩), (Cond.instanceMethod ⟨"java/lang/Throwable", "<init>", "()V"⟩), (Cond.code ⟨"java/lang/Throwable", "<init>", "()V"⟩ prog_14_method_1_code 1 none), (Cond.instanceMethod ⟨"java/lang/Object", "<init>", "()V"⟩), (Cond.code ⟨"java/lang/Object", "<init>", "()V"⟩ object_method_1_code 1 none), (Cond.methodLink "java/lang/Throwable" 1 ⟨"java/lang/Object", "<init>", "()V"⟩), (Cond.methodLink "java/lang/Throwable" 27 ⟨"java/lang/Throwable", "fillInStackTrace", "()Ljava/lang/Throwable;"⟩), (Cond.methodLink "java/lang/Throwable" 202 ⟨"java/lang/Throwable", "fillInStackTrace", "(I)Ljava/lang/Throwable;"⟩), (Cond.fieldLink "java/lang/Throwable" 7 "java/lang/Throwable" "cause" "Ljava/lang/Throwable;"), (Cond.lays "java/lang/Throwable" "java/lang/Throwable" "cause" "Ljava/lang/Throwable;"), (Cond.fieldLink "java/lang/Throwable" 17 "java/lang/Throwable" "stackTrace" "[Ljava/lang/StackTraceElement;"), (Cond.lays "java/lang/Throwable" "java/lang/Throwable" "stackTrace" "[Ljava/lang/StackTraceElement;"), (Cond.fieldLink "java/lang/Throwable" 24 "java/lang/Throwable" "suppressedExceptions" "Ljava/util/List;"), (Cond.lays "java/lang/Throwable" "java/lang/Throwable" "suppressedExceptions" "Ljava/util/List;"), (Cond.fieldLink "java/lang/Throwable" 13 "java/lang/Throwable" "UNASSIGNED_STACK" "[Ljava/lang/StackTraceElement;"), (Cond.laysStatic "java/lang/Throwable" "UNASSIGNED_STACK" "[Ljava/lang/StackTraceElement;"), (Cond.fieldLink "java/lang/Throwable" 20 "java/lang/Throwable" "SUPPRESSED_SENTINEL" "Ljava/util/List;"), (Cond.laysStatic "java/lang/Throwable" "SUPPRESSED_SENTINEL" "Ljava/util/List;"), (Cond.lays "java/lang/Throwable" "java/lang/Throwable" "detailMessage" "Ljava/lang/String;"), (Cond.instanceMethod ⟨"java/lang/Throwable", "<init>", "(Ljava/lang/String;)V"⟩), (Cond.code ⟨"java/lang/Throwable", "<init>", "(Ljava/lang/String;)V"⟩ prog_14_method_2_code 2 none), (Cond.fieldLink "java/lang/Throwable" 31 "java/lang/Throwable" "detailMessage" "Ljava/lang/String;"), (Cond.lays "java/lang/Throwable" "java/lang/Throwable" "detailMessage" "Ljava/lang/String;"), (Cond.instanceMethod ⟨"java/lang/UnsupportedOperationException", "<init>", "(Ljava/lang/String;)V"⟩), (Cond.code ⟨"java/lang/UnsupportedOperationException", "<init>", "(Ljava/lang/String;)V"⟩ prog_15_method_2_code 2 none), (Cond.methodLink "java/lang/UnsupportedOperationException" 7 ⟨"java/lang/RuntimeException", "<init>", "(Ljava/lang/String;)V"⟩), (Cond.instanceMethod ⟨"java/lang/RuntimeException", "<init>", "(Ljava/lang/String;)V"⟩), (Cond.declares ⟨"java/lang/RuntimeException", "<init>", "(Ljava/lang/String;)V"⟩), (Cond.instanceMethod ⟨"java/lang/RuntimeException", "<init>", "(Ljava/lang/String;)V"⟩), (Cond.code ⟨"java/lang/RuntimeException", "<init>", "(Ljava/lang/String;)V"⟩ prog_12_method_2_code 2 none), (Cond.methodLink "java/lang/RuntimeException" 7 ⟨"java/lang/Exception", "<init>", "(Ljava/lang/String;)V"⟩), (Cond.instanceMethod ⟨"java/lang/Exception", "<init>", "(Ljava/lang/String;)V"⟩), (Cond.declares ⟨"java/lang/Exception", "<init>", "(Ljava/lang/String;)V"⟩), (Cond.instanceMethod ⟨"java/lang/Exception", "<init>", "(Ljava/lang/String;)V"⟩), (Cond.code ⟨"java/lang/Exception", "<init>", "(Ljava/lang/String;)V"⟩ prog_9_method_2_code 2 none), (Cond.methodLink "java/lang/Exception" 7 ⟨"java/lang/Throwable", "<init>", "(Ljava/lang/String;)V"⟩), (Cond.instanceMethod ⟨"java/lang/Throwable", "<init>", "(Ljava/lang/String;)V"⟩), (Cond.declares ⟨"java/lang/Throwable", "<init>", "(Ljava/lang/String;)V"⟩), (Cond.methodLink "BootChain" 136 ⟨"java/lang/UnsupportedOperationException", "<init>", "(Ljava/lang/String;)V"⟩), (Cond.instantiable "java/lang/UnsupportedOperationException" 6), (Cond.castable "java/lang/UnsupportedOperationException" "java/lang/UnsupportedOperationException"), (Cond.selects "java/lang/UnsupportedOperationException" ⟨"java/lang/Throwable", "fillInStackTrace", "(I)Ljava/lang/Throwable;"⟩ ⟨"java/lang/Throwable", "fillInStackTrace", "(I)Ljava/lang/Throwable;"⟩), (Cond.selects "java/lang/UnsupportedOperationException" ⟨"java/lang/Throwable", "fillInStackTrace", "()Ljava/lang/Throwable;"⟩ ⟨"java/lang/Throwable", "fillInStackTrace", "()Ljava/lang/Throwable;"⟩), (Cond.lays "java/lang/UnsupportedOperationException" "java/lang/Throwable" "cause" "Ljava/lang/Throwable;"), (Cond.lays "java/lang/UnsupportedOperationException" "java/lang/Throwable" "stackTrace" "[Ljava/lang/StackTraceElement;"), (Cond.lays "java/lang/UnsupportedOperationException" "java/lang/Throwable" "suppressedExceptions" "Ljava/util/List;"), (Cond.lays "java/lang/UnsupportedOperationException" "java/lang/Throwable" "detailMessage" "Ljava/lang/String;"), (Cond.isRef (.static "java/lang/Throwable" "UNASSIGNED_STACK" "[Ljava/lang/StackTraceElement;")), (Cond.isRef (.static "java/lang/Throwable" "SUPPRESSED_SENTINEL" "Ljava/util/List;")), (Cond.fieldLink "java/lang/Throwable" 198 "java/lang/Throwable" "backtrace" "Ljava/lang/Object;"), (Cond.lays "java/lang/Throwable" "java/lang/Throwable" "backtrace" "Ljava/lang/Object;"), (Cond.lays "java/lang/UnsupportedOperationException" "java/lang/Throwable" "backtrace" "Ljava/lang/Object;")] := hw
  clear hw
  rcases List.mem_cons.mp h2 with rfl | h2
  · exact Or.inl ⟨rfl, Or.inl gw_7⟩
  rcases List.mem_cons.mp h2 with rfl | h2
  · exact Or.inl ⟨rfl, Or.inl gw_133⟩
  rcases List.mem_cons.mp h2 with rfl | h2
  · exact Or.inl ⟨rfl, Or.inl gw_140⟩
  rcases List.mem_cons.mp h2 with rfl | h2
  · exact Or.inl ⟨rfl, Or.inl gw_143⟩
  rcases List.mem_cons.mp h2 with rfl | h2
  · exact Or.inl ⟨rfl, Or.inl gw_145⟩
  rcases List.mem_cons.mp h2 with rfl | h2
  · exact Or.inl ⟨rfl, Or.inl gw_147⟩
  rcases List.mem_cons.mp h2 with rfl | h2
  · exact Or.inl ⟨rfl, Or.inl gw_134⟩
  rcases List.mem_cons.mp h2 with rfl | h2
  · exact Or.inl ⟨rfl, Or.inl gw_135⟩
  rcases List.mem_cons.mp h2 with rfl | h2
  · exact Or.inl ⟨rfl, Or.inl gw_20⟩
  rcases List.mem_cons.mp h2 with rfl | h2
  · exact Or.inl ⟨rfl, Or.inl gw_21⟩
  rcases List.mem_cons.mp h2 with rfl | h2
  · exact Or.inl ⟨rfl, Or.inl gw_136⟩
  rcases List.mem_cons.mp h2 with rfl | h2
  · exact Or.inl ⟨rfl, Or.inl gw_139⟩
  rcases List.mem_cons.mp h2 with rfl | h2
  · exact Or.inl ⟨rfl, Or.inl gw_144⟩
  rcases List.mem_cons.mp h2 with rfl | h2
  · exact Or.inl ⟨rfl, Or.inl gw_161⟩
  rcases List.mem_cons.mp h2 with rfl | h2
  · exact Or.inl ⟨rfl, Or.inl gw_123⟩
  rcases List.mem_cons.mp h2 with rfl | h2
  · exact Or.inl ⟨rfl, Or.inl gw_162⟩
  rcases List.mem_cons.mp h2 with rfl | h2
  · exact Or.inl ⟨rfl, Or.inl gw_125⟩
  rcases List.mem_cons.mp h2 with rfl | h2
  · exact Or.inl ⟨rfl, Or.inl gw_163⟩
  rcases List.mem_cons.mp h2 with rfl | h2
  · exact Or.inl ⟨rfl, Or.inl gw_127⟩
  rcases List.mem_cons.mp h2 with rfl | h2
  · exact Or.inl ⟨rfl, Or.inl gw_137⟩
  rcases List.mem_cons.mp h2 with rfl | h2
  · exact Or.inr (List.mem_of_getElem? (i := 0) rfl)
  rcases List.mem_cons.mp h2 with rfl | h2
  · exact Or.inl ⟨rfl, Or.inl gw_138⟩
  rcases List.mem_cons.mp h2 with rfl | h2
  · exact Or.inr (List.mem_of_getElem? (i := 2) rfl)
  rcases List.mem_cons.mp h2 with rfl | h2
  · exact Or.inl ⟨rfl, Or.inl gw_129⟩
  rcases List.mem_cons.mp h2 with rfl | h2
  · exact Or.inl ⟨rfl, Or.inl gw_158⟩
  rcases List.mem_cons.mp h2 with rfl | h2
  · exact Or.inl ⟨rfl, Or.inl gw_159⟩
  rcases List.mem_cons.mp h2 with rfl | h2
  · exact Or.inl ⟨rfl, Or.inl gw_160⟩
  rcases List.mem_cons.mp h2 with rfl | h2
  · exact Or.inl ⟨rfl, Or.inl gw_129⟩
  rcases List.mem_cons.mp h2 with rfl | h2
  · exact Or.inl ⟨rfl, Or.inl gw_376⟩
  rcases List.mem_cons.mp h2 with rfl | h2
  · exact Or.inl ⟨rfl, Or.inl gw_377⟩
  rcases List.mem_cons.mp h2 with rfl | h2
  · exact Or.inl ⟨rfl, Or.inl gw_378⟩
  rcases List.mem_cons.mp h2 with rfl | h2
  · exact Or.inl ⟨rfl, Or.inl gw_152⟩
  rcases List.mem_cons.mp h2 with rfl | h2
  · exact Or.inl ⟨rfl, Or.inr (List.mem_of_getElem? (i := 2) rfl)⟩
  rcases List.mem_cons.mp h2 with rfl | h2
  · exact Or.inl ⟨rfl, Or.inl gw_152⟩
  rcases List.mem_cons.mp h2 with rfl | h2
  · exact Or.inl ⟨rfl, Or.inl gw_153⟩
  rcases List.mem_cons.mp h2 with rfl | h2
  · exact Or.inl ⟨rfl, Or.inl gw_154⟩
  rcases List.mem_cons.mp h2 with rfl | h2
  · exact Or.inl ⟨rfl, Or.inl gw_155⟩
  rcases List.mem_cons.mp h2 with rfl | h2
  · exact Or.inl ⟨rfl, Or.inr (List.mem_of_getElem? (i := 4) rfl)⟩
  rcases List.mem_cons.mp h2 with rfl | h2
  · exact Or.inl ⟨rfl, Or.inl gw_155⟩
  rcases List.mem_cons.mp h2 with rfl | h2
  · exact Or.inl ⟨rfl, Or.inl gw_156⟩
  rcases List.mem_cons.mp h2 with rfl | h2
  · exact Or.inl ⟨rfl, Or.inl gw_157⟩
  rcases List.mem_cons.mp h2 with rfl | h2
  · exact Or.inl ⟨rfl, Or.inl gw_158⟩
  rcases List.mem_cons.mp h2 with rfl | h2
  · exact Or.inl ⟨rfl, Or.inr (List.mem_of_getElem? (i := 6) rfl)⟩
  rcases List.mem_cons.mp h2 with rfl | h2
  · exact Or.inl ⟨rfl, Or.inl gw_375⟩
  rcases List.mem_cons.mp h2 with rfl | h2
  · exact Or.inl ⟨rfl, Or.inl gw_368⟩
  rcases List.mem_cons.mp h2 with rfl | h2
  · exact Or.inl ⟨rfl, Or.inr (List.mem_of_getElem? (i := 8) rfl)⟩
  rcases List.mem_cons.mp h2 with rfl | h2
  · exact Or.inl ⟨rfl, Or.inl gw_369⟩
  rcases List.mem_cons.mp h2 with rfl | h2
  · exact Or.inl ⟨rfl, Or.inl gw_142⟩
  rcases List.mem_cons.mp h2 with rfl | h2
  · exact Or.inl ⟨rfl, Or.inl gw_370⟩
  rcases List.mem_cons.mp h2 with rfl | h2
  · exact Or.inl ⟨rfl, Or.inl gw_371⟩
  rcases List.mem_cons.mp h2 with rfl | h2
  · exact Or.inl ⟨rfl, Or.inl gw_372⟩
  rcases List.mem_cons.mp h2 with rfl | h2
  · exact Or.inl ⟨rfl, Or.inl gw_373⟩
  rcases List.mem_cons.mp h2 with rfl | h2
  · exact Or.inr (List.mem_of_getElem? (i := 1) rfl)
  rcases List.mem_cons.mp h2 with rfl | h2
  · exact Or.inr (List.mem_of_getElem? (i := 3) rfl)
  rcases List.mem_cons.mp h2 with rfl | h2
  · exact Or.inl ⟨rfl, Or.inl gw_132⟩
  rcases List.mem_cons.mp h2 with rfl | h2
  · exact Or.inl ⟨rfl, Or.inl gw_131⟩
  rcases List.mem_cons.mp h2 with rfl | h2
  · exact Or.inl ⟨rfl, Or.inl gw_374⟩
  exact absurd h2 List.not_mem_nil
