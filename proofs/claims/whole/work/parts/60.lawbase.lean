/-! Own rows for the law's helpers: a call that may throw, with the tables of its start; the table of handlers; a static call of a method with a table. -/
section LWA
variable {p : Program} {l : Launch} {e : Env} {R : Room} {s : State} {m : MethodId} {args : Array Value} {below : List Frame} {meth : Method} {c : Code} {H : Heap} {locs : List Loc} {cells slots : Nat} {Q : State → Prop}
/-- as tx_Run, and what it says of the callee's tables at its start -/
def lw_Run (p : Program) (l : Launch) (e : Env) (R : Room) (s : State) (m : MethodId) (args : Array Value) (below : List Frame) (meth : Method) (c : Code) (H : Heap) (locs : List Loc) (cells slots mc ms : Nat) (g : JFrame) (rest : List Value) (Qa : State → Outcome → State → Prop) (free : Addr → Prop) : Prop :=
  tx_Run p l e R s m args below meth c H locs cells slots mc ms g rest (fun st o t => s.vm.Alike st.vm ∧ Qa st o t) free
theorem lw_runV {y : MethodName} {bytes cc : ByteArray} {maxL nL mc ms n index : Nat} {ret : Option FieldType} {ws : List Cond} {rm : Room} {Pc : Array Value → State → Prop} {Qc : Array Value → State → Outcome → State → Prop} {free : Addr → Prop} {Ts : List Cond} {own C : String} {b : Addr} {As rest : List Value} {g : JFrame}
    (S : CallFix p m c cc nL s args Ts own) (hM : tx_Met l y ws rm Pc Qc mc ms free) (cw : CallW R s args own C index y bytes maxL ret ws rm mc ms n) (hp : PreV s H C b Pc As)
    (hg : g.method = m) (hn : As.length = n) (hsize : g.locals.size = nL) (hstack : g.stack = As.reverse ++ .ref b :: rest) (hW : 2 * g.monitorRoom + (rest.map fun v => v.category).sum ≤ 8) (hdg : decode cc g.pc = .ok (.invokevirtual index, 3)) (hf : cells + mc ≤ R.cells ∧ slots + ms ≤ R.slots) :
    lw_Run p l e R s m args below meth c H locs cells slots mc ms g rest (Qc (Value.ref b :: As).toArray) free := by
  obtain ⟨⟨hrc, hrs, hfr, hlo, hws, hcw, hcode, hini, hy, hlen, hlink⟩, hin, hse⟩ := cw
  obtain ⟨hx, hb, hml, hown, -⟩ := S
  obtain ⟨hblind, ⟨cellB, hcB, hoB, hclB⟩, hPc⟩ := hp
  intro T hT X
  obtain ⟨mk, methM, hnamed, hmethM, hstM, habM⟩ := Cond.instanceMethod_spec hin
  obtain ⟨methM', cM, hmethM', hcM, -, hlM, -, -, -, hsigM⟩ := Cond.code_spec hnamed hcode
  cases hmethM.symm.trans hmethM'
  obtain ⟨c2, r2, m2, q1, q2, q3, q4, kP, hkP, hkPi⟩ := Cond.selects_spec hse
  cases hclB.symm.trans q1
  cases (State.methodFound?_of_named hnamed hy).symm.trans q2
  cases hnamed.symm.trans q3
  have hselP : selectMethod e.platform s.vm cellB.cls mk = .method mk := by rw [Launch.admits_selectMethod X.admits]; exact q4
  obtain ⟨vm₁, X₁, hstep₁⟩ := X.invokevirtual hx hown hlink hnamed hmethM hstM hkP hkPi hy (a := b) (cell := cellB) (by rw [hT]; exact hcB)
    (fun z h => by rw [h] at hoB; cases hoB) hselP hmethM habM hkP hkPi (g := g) hg (argsL := As) (rest := rest) (hn.trans (hlen _ hsigM)) hstack (by rw [hb]; exact hdg)
  have hW₁ := X₁.warmed
  obtain ⟨o, t, T', L, X', hL, e1, e2, hq, r1, r2⟩ := tx_enter X₁ hM (g := { g with stack := rest }) (ig := .invokevirtual index) (mk := mk) (methY := methM) (cY := cM) (a := (Value.ref b :: As).toArray) hg (hsize.trans hml.symm) (by rw [hb]; exact hdg) (X₁.named hnamed)
    (by rw [hW₁.alike.method?]; exact hmethM) hcM (fun w hw => hws w hw _ _ hW₁) (word_at hW₁ (Or.inl (by first | rfl | simp [Cond.onTables, Cond.keeps, Cond.steady])) hini) hfr (by rw [hlM]; show 2 * g.monitorRoom + (rest.map fun v => v.category).sum + (maxL + 11) + rm.locals ≤ R.locals; omega) (by rw [hrc]; exact hf.1) (by rw [hrs]; exact hf.2)
    (hblind _ _ _ _ (hPc (T.setVm vm₁) hT hW₁))
  refine ⟨o, (T.setVm vm₁).calling { g with stack := rest } mk (Value.ref b :: As).toArray, t, T', L, hT, X', hL, e1, e2, ⟨hW₁.alike, hq⟩, fun v hv tg h => hstep₁ _ fun acts => ?_, fun x hx9 tg h => hstep₁ _ fun acts => ?_⟩
  · rw [doInvoke_state]; exact (r1 v hv).trans h
  · rw [doInvoke_state]; exact (r2 x hx9).trans h
/-- the search of a table, said of its numbers -/
def lw_seek (s : State) (args : Array Value) (own : String) (cx : ClassId) (pc hpc : Nat) : List (Nat × Nat × Nat × Nat) → Prop
  | [] => False
  | q :: r => q.1 ≤ pc ∧ pc < q.2.1 ∧ q.2.2.2 ≠ 0 ∧ ∃ (name : String) (cT : ClassId), (Cond.classLink own q.2.2.2 name).before args s = true ∧ s.vm.findClass name = some cT ∧
      ((s.vm.assignable cx cT = true ∧ hpc = q.2.2.1) ∨ (s.vm.assignable cx cT = false ∧ lw_seek s args own cx pc hpc r))
theorem lw_seeks {own : String} {cx : ClassId} {pc hpc : Nat} : ∀ (hh : List (Nat × Nat × Nat × Nat)) (es : List ExceptionTableEntry), es.map (fun h => (h.startPc, h.endPc, h.handlerPc, h.catchType)) = hh → lw_seek s args own cx pc hpc hh → tx_Seek s args own cx pc hpc es := by
  intro hh
  induction hh with
  | nil => intro es _ h; exact h.elim
  | cons q r ih =>
    intro es he h
    cases es with
    | nil => cases he
    | cons x es =>
      simp only [List.map_cons, List.cons.injEq] at he
      obtain ⟨e1, e2⟩ := he
      subst e1
      obtain ⟨h1, h2, h3, name, cT, h4, h5, h6⟩ := h
      refine Or.inr ⟨by simp only [covers]; simp [h1, h2], h3, name, cT, h4, h5, ?_⟩
      rcases h6 with h6 | ⟨h6, h7⟩
      · exact Or.inl h6
      · exact Or.inr ⟨h6, ih es e2 h7⟩
theorem lw_table {y : MethodName} {S : Spec} {cc : ByteArray} {maxL : Nat} {ret : Option FieldType} {s₁ : State} {hh : List (Nat × Nat × Nat × Nat)} (B : BodyLoose p l y S cc maxL ret e s m args below meth c s₁) (h : (Cond.codeWith y cc maxL ret hh).before args s = true) : c.exceptionTable.toList.map (fun h => (h.startPc, h.endPc, h.handlerPc, h.catchType)) = hh := by
  obtain ⟨m9, meth', c', hn9, hm', hc', -, -, ht, -⟩ := Cond.codeWith_spec h
  cases B.named.symm.trans hn9
  cases B.method.symm.trans hm'
  cases (Stand.of_body B).code.symm.trans hc'
  exact ht
/-- which of the three are not of one another's class -/
def lw_N (U : State) : Prop := ∀ q ∈ ([(bc_IAE, bc_ISE), (bc_IAE, bc_UOE), (bc_ISE, bc_IAE), (bc_ISE, bc_UOE), (bc_UOE, bc_IAE), (bc_UOE, bc_ISE)] : List (String × String)), ∀ c1 c2 : ClassId, U.vm.findClass q.1 = some c1 → U.vm.findClass q.2 = some c2 → U.vm.assignable c1 c2 = false
theorem lw_N.moved {u U : State} (hvm : u.vm.Alike U.vm) (h : lw_N u) : lw_N U := by
  intro q hq c1 c2 h1 h2
  rw [hvm.findClass] at h1 h2
  rw [hvm.assignable]
  exact h q hq c1 c2 h1 h2
theorem lw_blind {av : List Value} {D : va_G} {cI cJ : ClassId} {ws : va_W} {sz : Nat} : FrameBlind (va_Pc av (fun U => bc_pre D cI cJ ws sz U ∧ lw_N U)) := by
  intro a U g mk h
  obtain ⟨h0, h1, h2⟩ := h
  have := bc_blind (av := av) (D := D) (cI := cI) (cJ := cJ) (ws := ws) (sz := sz) a U g mk ⟨h0, h1⟩
  exact ⟨this.1, this.2, lw_N.moved (u := U) (U := U.calling g mk a) (Vm.Alike.refl U.vm) h2⟩
theorem lw_S {A0 : Nat → Prop} {H0 H1 : Heap} {A1 : Nat → Prop} {L : List Loc} (hS : va_S A0 H0 H locs) (hz : H.size ≤ H1.size) (hk : ∀ q : Nat, q < H.size → ¬ A1 q → H1[q]? = H[q]?) (hA : ∀ q, A1 q → A0 q) (hL : ∀ q ∈ L, A1 q.base) : va_S A0 H0 H1 (locs ++ L) :=
  ⟨Nat.le_trans hS.1 hz, fun q h1 h2 => by rw [hk q (Nat.lt_of_lt_of_le h1 hS.1) (fun z => h2 (hA q z))]; exact hS.2.1 q h1 h2, fun q hq => by
    rcases List.mem_append.mp hq with h | h
    · exact hS.2.2 q h
    · exact hA _ (hL q h)⟩
/-- a thrown object, taken by a table -/
theorem lw_hit {x : Addr} {t : State} {ce : Cell} {nm : String} {st : State} {ix : Nat} {pc hpc : Nat} {hh : List (Nat × Nat × Nat × Nat)} (hal : s.vm.Alike st.vm) (hown : s.vm.findClass "BootChainLaw" = some m.cls) (hlink : (Cond.classLink "BootChainLaw" ix nm).before args s = true)
    (hpl : e.platform.magicAccessors = ({} : Platform).magicAccessors) (hce : t.heap[x]? = some ce) (hv : ce.vm = .none) (hf : st.vm.findClass nm = some ce.cls) (hht : c.exceptionTable.toList.map (fun h => (h.startPc, h.endPc, h.handlerPc, h.catchType)) = hh) (hs : s.vm.findClass nm = some ce.cls → lw_seek s args "BootChainLaw" ce.cls pc hpc hh) :
    t.heap[x]? = some ce ∧ ce.vm.isStatics = false ∧ (∃ k, s.vm.classes[ce.cls]? = some k) ∧ tx_Seek s args "BootChainLaw" ce.cls pc hpc c.exceptionTable.toList := by
  have hf' : s.vm.findClass nm = some ce.cls := by rw [← hal.findClass]; exact hf
  obtain ⟨c', hc', hcl⟩ := Cond.classLink_spec hown hlink e.platform hpl
  cases hf'.symm.trans hc'
  obtain ⟨dk, _, _, kt, hd, _, _, _, _, hkt, _, hopen⟩ := hcl.here
  exact ⟨hce, by rw [hv]; rfl, ⟨kt, hkt⟩, lw_seeks hh _ hht (hs hf')⟩
/-- a static call of a method with a table -/
theorem lw_runS {y : MethodName} {bytes cc : ByteArray} {maxL nL mc ms n index : Nat} {ret : Option FieldType} {hh : List (Nat × Nat × Nat × Nat)} {ws : List Cond} {rm : Room} {Pc : Array Value → State → Prop} {Qc : Array Value → State → Outcome → State → Prop} {free : Addr → Prop} {Ts : List Cond} {own : String} {As rest : List Value} {g : JFrame}
    (S : CallFix p m c cc nL s args Ts own) (hM : Met l y ws rm Pc Qc mc ms free) (hrc : rm.cells = mc) (hrs : rm.slots = ms) (hfr : rm.frames + 1 ≤ R.frames) (hlo : 8 + (maxL + 11) + rm.locals ≤ R.locals) (hws : ∀ w ∈ ws, ∀ (a' : Array Value) (U : State), s.WarmedH U.vm → w.before a' U = true) (hcw : Cond.codeWith y bytes maxL ret hh ∈ ws)
    (hcode : (Cond.codeWith y bytes maxL ret hh).before args s = true) (hstat : (Cond.static y).before args s = true) (hini : (Cond.initialized y.cls).before args s = true) (hlink : (Cond.methodLink own index y).before args s = true) (hd : y.cls ≠ "java/lang/invoke/MethodHandle" ∧ y.cls ≠ "java/lang/invoke/VarHandle" ∧ (parseMethodDescriptor y.desc).map (fun d => d.parameters.length) = some n) (hp : PreS s H Pc As)
    (hg : g.method = m) (hn : As.length = n) (hsize : g.locals.size = nL) (hstack : g.stack = As.reverse ++ rest) (hW : 2 * g.monitorRoom + (rest.map fun v => v.category).sum ≤ 8) (hdg : decode cc g.pc = .ok (.invokestatic index, 3)) (hf : cells + mc ≤ R.cells ∧ slots + ms ≤ R.slots) :
    va_Run p l e R s m args below meth c H locs cells slots mc ms g rest (Qc As.toArray) free := by
  have hK : Back l R p e below s args y 3 8 (PreOf R mc ms Pc) (PostOf Qc mc ms free) := va_backW (hh := hh) (bytes := bytes) (maxL := maxL) (ret := ret) hM hp.1 hrc hrs hfr hlo hws hcw (fun a' U hW => word_at hW (Or.inl (by first | rfl | simp [Cond.onTables, Cond.keeps, Cond.steady])) hini)
  obtain ⟨hx, hb, hml, ho, -⟩ := S
  intro T hT X
  obtain ⟨mk, methM, cM, hnamed, hmethM, -, -, -, -, -, -, hsigM⟩ := Cond.codeWith_spec hcode
  have hstatic : methM.isStatic = true := Cond.static_spec hnamed hmethM hstat
  obtain ⟨kP, hkP, -⟩ := className_of_methodNamed hnamed
  have hinitP : kP.init = .initialized := Cond.initialized_spec (findClass_of_methodNamed hnamed) hkP hini
  have hlen : As.length = methM.sig.parameters.length := by
    have h2 := hd.2.2
    rw [hsigM] at h2
    exact hn.trans (Option.some.inj h2).symm
  obtain ⟨vm₁, X₁, hstep₁⟩ := X.invokestatic hx ho hlink hnamed hmethM hstatic hkP hinitP ⟨hd.1, hd.2.1⟩ (g := g) hg (argsL := As) (rest := rest) hlen hstack (by rw [hb]; exact hdg)
  obtain ⟨v, ⟨U', l2, c2, s2⟩, X', ⟨g', mk', t, L, e1, e2, hq, h1, hL, h2, h3⟩, hsteps⟩ := hK m meth c ⟨T.setVm vm₁, locs, cells, slots⟩ { g with stack := rest } (.invokestatic index) mk As.toArray X₁ hg (hsize.trans hml.symm) (by rw [hb]; exact hdg) hW (X₁.named hnamed) ⟨hf.1, hf.2, hp.2 (T.setVm vm₁) hT X₁.warmed⟩
  dsimp only [Pt.U, Pt.locs, Pt.cells, Pt.slots] at X' e1 e2 h1 h2 h3 hsteps
  subst h1; subst h2; subst h3
  exact ⟨v, (T.setVm vm₁).calling g' mk' As.toArray, t, U', L, hT, X', hL, e1, e2, hq, fun target h => hstep₁ _ fun acts => by rw [doInvoke_state]; exact hsteps.trans h⟩
end LWA
/-- the codes that the helpers give back: IllegalArgument 1, IllegalState 2 -/
def lwA (k : Nat) : Int32 := if k = 0 then 0 else if k = 1 then 1 else 2
/-- IllegalState 1, UnsupportedOperation 2 -/
def lwS (k : Nat) : Int32 := if k = 0 then 0 else if k = 2 then 1 else 2
/-- the cell for the answer -/
def lw_o (k : Nat) (a : Int32) (ov : Nat → Int64) : Nat → Int64 := if k = 0 then vp_updL ov ((0 : Int32)).toNatClampNeg (a.toInt64) else ov
theorem lw_o_0 {k : Nat} {a : Int32} {ov : Nat → Int64} (h : k = 0) : lw_o k a ov = vp_updL ov ((0 : Int32)).toNatClampNeg (a.toInt64) := if_pos h
theorem lw_o_n {k : Nat} {a : Int32} {ov : Nat → Int64} (h : ¬ k = 0) : lw_o k a ov = ov := if_neg h

