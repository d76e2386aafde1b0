/-! Own rows: a method that may throw (a new exception with a text), and the caller's handler that takes it. -/
section TXA
variable {p : Program} {l : Launch} {e : Env} {R : Room} {s : State} {m : MethodId} {args : Array Value} {below : List Frame} {meth : Method} {c : Code} {H : Heap} {locs : List Loc} {cells slots : Nat} {Q Q2 : State → Prop}
/-- the end of a run of a method, however it ended -/
def tx_End (st t : State) (L : List Loc) (k n : Nat) : Prop := st.WarmedH t.vm ∧ st.sameButNew ({ t with vm := st.vm } : State) L k n
/-- a contract whose outcome may be a throw -/
def tx_Met (l : Launch) (y : MethodName) (ws : List Cond) (rm : Room) (Pc : Array Value → State → Prop) (Qc : Array Value → State → Outcome → State → Prop) (mc ms : Nat) (free : Addr → Prop) : Prop :=
  MetFree l y (headSpec ws rm) Pc (fun _ _ _ _ _ => True) (fun a st o t => Qc a st o t ∧ ∃ L, tx_End st t L mc ms ∧ ∀ q ∈ L, free q.base)
def tx_MQ (below : List Frame) (Qc : Array Value → State → Outcome → State → Prop) (a : Array Value) (s : State) (mc ms : Nat) (free : Addr → Prop) : State → Prop := fun t =>
  ∃ o, t.status = .running ∧ Ended t below o ∧ Qc a s o t ∧ ∃ L, tx_End s t L mc ms ∧ ∀ q ∈ L, free q.base
theorem tx_mono {g : JFrame} (h : ∀ t, Q t → Q2 t) (k : W p l e R s m args below meth c H locs cells slots Q g) : W p l e R s m args below meth c H locs cells slots Q2 g := by
  intro T hT X
  obtain ⟨t, a, b⟩ := k T hT X
  exact ⟨t, a, h t b⟩
theorem tx_ofMQ {Qc : Array Value → State → Outcome → State → Prop} {a : Array Value} {mc ms : Nat} {free : Addr → Prop} {t : State} (h : MQ below Qc a s mc ms free t) : tx_MQ below Qc a s mc ms free t := by
  obtain ⟨o, h1, h2, h3, L, h4, h5⟩ := h
  exact ⟨o, h1, h2, h3, L, ⟨h4.2.1, h4.2.2⟩, h5⟩
theorem tx_ofW {y : MethodName} {ws ws' : List Cond} {rm : Room} {Pc : Array Value → State → Prop} {Qc : Array Value → State → Outcome → State → Prop} {mc ms : Nat} {free : Addr → Prop} {cc : ByteArray} {maxL : Nat} {ret : Option FieldType}
    (hy : plainName y.cls = true) (hw : ws = Cond.code y cc maxL ret :: ws')
    (body : ∀ p e s m args below meth c s₁, BodyLoose p l y (headSpec ws rm) cc maxL ret e s m args below meth c s₁ → c.maxLocals = maxL → Pc args s →
      W p l e (headSpec ws rm).room s m args below meth c s.heap [] 0 0 (tx_MQ below Qc args s mc ms free) (entryFrame m args maxL)) : tx_Met l y ws rm Pc Qc mc ms free := by
  refine MetFree.of_bodyS (code := cc) (maxLocals := maxL) (ret := ret) hy ?_ ?_
  · intro args s m h hn
    obtain ⟨meth, c, h1, h2, h3, h4, h5, h6, -, -⟩ := Cond.code_spec hn (atoms_spec (ws := ws) h _ (by rw [hw]; exact List.mem_cons_self))
    exact ⟨meth, c, h1, h2, h3, h4, h5, h6⟩
  · intro p e s m args below meth c s₁ B hml hP _
    have hh0 : s₁.heap = s.heap := by rw [B.state]; rfl
    obtain ⟨t, a1, o, b1, b2, b3⟩ := body p e s m args below meth c s₁ B hml hP s₁ hh0 (Stand.of_body B)
    exact ⟨t, o, a1, b1, b2, b3.1, b3.2⟩
/-- the walk as if the method had been entered where it stands now -/
theorem tx_rebase {T : State} (X : Stand p l e R s m args below meth c T locs cells slots) (hc : cells ≤ R.cells) (hs : slots ≤ R.slots) :
    Stand p l e { frames := R.frames, cells := R.cells - cells, slots := R.slots - slots, locals := R.locals } (T.setFrames (.invoking m args :: below)) m args below meth c T [] 0 0 := by
  obtain ⟨g₀, hfr⟩ := X.frames_eq
  have hcur : T.cur < T.threads.size := State.cur_lt_of_frames hfr
  obtain ⟨th, hth, -⟩ := State.frames_cons hfr
  have hf1 : (T.setFrames (.invoking m args :: below)).frames = .invoking m args :: below := State.frames_setFrames _ hcur
  have hT : (T.setFrames (.invoking m args :: below)).setFrames T.frames = T := by rw [State.setFrames_setFrames, State.setFrames_self hth]
  obtain ⟨th1, hth1, -⟩ := State.frames_cons hf1
  have hm : T.vm.method? m = some meth := X.method'
  have hl1 := State.localsInUse_invoking hf1 (meth := meth) (c := c) hm X.code
  have hl2 := State.localsInUse_invoking X.frames X.method X.code
  have hlim : e.platform.stackLimits (T.setFrames (.invoking m args :: below)).me = e.platform.stackLimits s.me := by rw [State.stackLimits_setFrames]; exact X.limits
  have hby : (T.setFrames (.invoking m args :: below)).me.stackBytes = s.me.stackBytes := by rw [State.stackBytes_setFrames]; exact X.bytes
  have hbk : (T.setFrames (.invoking m args :: below)).slotsTrue = true := X.book
  have hz1 : T.heap.size ≤ s.heap.size + cells := X.heapSize
  have hz2 : T.slotsUsed ≤ s.slotsUsed + slots := X.used
  refine ⟨X.admits, X.cas, X.clock, hf1, ?_, ?_, hm, X.code, X.here, X.tail, State.WarmedH.refl (T.setFrames (.invoking m args :: below)), by rw [hlim]; exact X.limits, by rw [hby]; exact X.bytes, ?_⟩
  · have hr := X.room
    simp only [State.hasRoom, Bool.and_eq_true, decide_eq_true_eq] at hr ⊢
    rw [hf1, hl1, hlim, hby]
    rw [X.frames, hl2] at hr
    obtain ⟨⟨⟨⟨a1, a2⟩, a3⟩, a4⟩, a5⟩ := hr
    refine ⟨⟨⟨⟨a1, a2⟩, ?_⟩, ?_⟩, hbk⟩
    · show T.heap.size + (R.cells - cells) ≤ _
      omega
    · show T.slotsUsed + (R.slots - slots) ≤ _
      omega
  · have hh := X.hears
    have hal : T.vm.method? = s.vm.method? := funext fun x => X.warmed.alike.method? x
    have e1 : ∀ b : List Frame, (T.setFrames (.invoking m args :: below)).hears m b = s.hears m b := by
      intro b
      have hvm : (T.setFrames (.invoking m args :: below)).vm = T.vm := rfl
      cases b with
      | nil => simp only [State.hears, hvm, hal]
      | cons f r => cases f <;> simp only [State.hears, State.code?_eq, hvm, hal]
    rw [e1]
    exact hh
  · have h := (State.sameButNew.refl (T.setFrames (.invoking m args :: below)) hth1).setFrames T.frames (State.cur_lt_of_frames hf1)
    rw [hT] at h
    exact h
/-- a word that reads the tables alone, under warmer tables -/
theorem tx_word {a' : Array Value} {U : State} (hW : s.WarmedH U.vm) {w : Cond} (hc : (w.onTables && w.keepsFace) = true) (h : w.before args s = true) : w.before a' U = true := by
  simp only [Bool.and_eq_true] at hc
  have h1 := Cond.before_shiftedFace (args := args) (State.Shifted.of_warmed hW) w hc.2 h
  rw [Cond.onTables_vm (A' := a') (U' := U) U.vm w hc.1, State.setVm_self] at h1
  exact h1
/-- a static of reference type, at a place that nobody writes -/
def tx_St (C n d : String) (A : Nat → Prop) (U : State) (H : Heap) : Prop := ∃ (c : ClassId) (k : Class) (i : Nat) (f : Field) (a : Nat) (cell : Cell) (v : Value), U.vm.findClass C = some c ∧ U.fieldFound? C n d = some (c, k, i, f) ∧ f.isStatic = true ∧ k.statics = some a ∧ H[a]? = some cell ∧ cell.vm.isStatics = true ∧ cell.cls = c ∧ f.slot < cell.slots.size ∧ k.staticTypes[f.slot]? = some f.type ∧ cell.slots[f.slot]? = some v ∧ v.isRef = true ∧ ¬ A a
theorem tx_St.moved {C n d : String} {A : Nat → Prop} {u U : State} {H : Heap} (hvm : u.vm.Alike U.vm) (h : tx_St C n d A u H) : tx_St C n d A U H := by
  obtain ⟨c, k, i, f, a, cell, v, h0, h1, h2, h3, h4, h5, h6, h7, h8, h9⟩ := h
  obtain ⟨k', hi', he⟩ := State.fieldFound?_setVm hvm h1
  exact ⟨c, k', i, f, a, cell, v, by rw [hvm.findClass]; exact h0, hi', h2, by rw [he]; exact h3, h4, h5, h6, h7, by rw [he]; exact h8, h9⟩
theorem tx_St.kept {C n d : String} {A : Nat → Prop} {U : State} {H H1 : Heap} (h : tx_St C n d A U H) (hq : ∀ a : Nat, a < H.size → ¬ A a → H1[a]? = H[a]?) : tx_St C n d A U H1 := by
  obtain ⟨c, k, i, f, a, cell, v, h0, h1, h2, h3, h4, h5, h6, h7, h8, h9, h10, h11⟩ := h
  exact ⟨c, k, i, f, a, cell, v, h0, h1, h2, h3, by rw [hq a (Array.getElem?_eq_some_iff.mp h4).1 h11]; exact h4, h5, h6, h7, h8, h9, h10, h11⟩
theorem tx_St.narrow {C n d : String} {A B : Nat → Prop} {U : State} {H : Heap} (h : tx_St C n d A U H) (hAB : ∀ q, B q → A q) : tx_St C n d B U H := by
  obtain ⟨c, k, i, f, a, cell, v, h0, h1, h2, h3, h4, h5, h6, h7, h8, h9, h10, h11⟩ := h
  exact ⟨c, k, i, f, a, cell, v, h0, h1, h2, h3, h4, h5, h6, h7, h8, h9, h10, fun z => h11 (hAB a z)⟩
theorem tx_St.lays {C n d : String} {A : Nat → Prop} {U : State} (h : tx_St C n d A U U.heap) : (Cond.laysStatic C n d).before args U = true := by
  obtain ⟨c, k, i, f, a, cell, v, h0, h1, h2, h3, h4, h5, h6, h7, h8, h9, h10, h11⟩ := h
  simp [Cond.before, Cond.holds, Cond.value, h0, h1, h2, h3, h4, h5, h6, h7, h8]
theorem tx_St.isRef {C n d : String} {A : Nat → Prop} {U : State} (h : tx_St C n d A U U.heap) : (Cond.isRef (.static C n d)).before args U = true := by
  obtain ⟨c, k, i, f, a, cell, v, h0, h1, h2, h3, h4, h5, h6, h7, h8, h9, h10, h11⟩ := h
  cases v <;> simp [Value.isRef] at h10 <;> simp [Cond.before, Cond.holds, Cond.value, Term.eval, State.fieldNamed?, h1, h2, h3, h4, h5, h9]
theorem tx_St.of {C n d : String} {A : Nat → Prop} {U : State} (hl : (Cond.laysStatic C n d).before args U = true) (hr : (Cond.isRef (.static C n d)).before args U = true) (hA : ∀ a : Nat, a < U.heap.size → ¬ A a) : tx_St C n d A U U.heap := by
  obtain ⟨c, k, i, f, a, cell, hc, hi, hst, ha, hcell, hs, hcls, hlt, hty⟩ := Cond.laysStatic_spec hl
  have hv : cell.slots[f.slot]? = some cell.slots[f.slot] := Array.getElem?_eq_getElem hlt
  refine ⟨c, k, i, f, a, cell, _, hc, hi, hst, ha, hcell, hs, hcls, hlt, hty, hv, ?_, hA a (Array.getElem?_eq_some_iff.mp hcell).1⟩
  simp only [Cond.before, Cond.holds, Cond.value, Term.eval, State.fieldNamed?, hi, hst, ha, hcell, hs, hv] at hr
  cases hz : cell.slots[f.slot] <;> simp_all [Value.isRef]
end TXA
/-- the four words of Throwable's statics -/
def tx_four : List Cond := [.laysStatic Bundle.tN "UNASSIGNED_STACK" Bundle.steD, .isRef (.static Bundle.tN "UNASSIGNED_STACK" Bundle.steD), .laysStatic Bundle.tN "SUPPRESSED_SENTINEL" Bundle.listD, .isRef (.static Bundle.tN "SUPPRESSED_SENTINEL" Bundle.listD)]
section TXB
variable {p : Program} {l : Launch} {e : Env} {R : Room} {s : State} {m : MethodId} {args : Array Value} {below : List Frame} {meth : Method} {c : Code} {H : Heap} {locs : List Loc} {cells slots : Nat} {Q : State → Prop}
/-- from the constructor's call on: the exception leaves the method; all old cells stay -/
theorem tx_ctor {cc : ByteArray} {pc nL : Nat} {ls : Array Slot} {rest : List Value} (hexec : p.tables.exec = Jvm.exec) (hb : c.code = cc) (hl : l.stackTraces = false) {own cls : String} {names : List String} {ic : Nat} {msg : Value} {a : Addr}
    (hown : s.vm.findClass own = some m.cls) (hcls : Bundle.fit cls = true) (hnames : ∀ n ∈ names, Bundle.fit n = true) (h : ∀ w ∈ Bundle.ownAtoms own ic cls names, w.before args s = true)
    {cX : ClassId} {kX : Class} (hfX : s.vm.findClass cls = some cX) (hkX : s.vm.classes[cX]? = some kX) (hcell : H[a]? = some (freshCell cX kX)) (hnew : s.heap.size ≤ a) (hmsg : msg.isRef = true)
    (hls : ls.size = nL) (hml : c.maxLocals = nL) (hem : c.exceptionTable.isEmpty = true) (hlocks : meth.locks = false)
    (hfr : names.length + 3 < R.frames) (hlo : ((Value.ref a :: rest).map fun v => v.category).sum + (13 * (names.length + 1) + 42) ≤ R.locals)
    (d6 : decode cc pc = .ok (.invokespecial ic, 3)) (d9 : decode cc (pc + 3) = .ok (.athrow, 1))
    (hq : ∀ (U : State) (ce : Cell), U.status = .running → Ended U below (.threw a) → s.WarmedH U.vm → s.sameButNew ({ U with vm := s.vm } : State) [] cells slots → U.heap[a]? = some ce → s.vm.findClass cls = some ce.cls → ce.vm = .none → Q U) :
    W p l e R s m args below meth c H [] cells slots Q (F0 m pc ls (msg :: .ref a :: .ref a :: rest)) := by
  intro T hT X
  have htr : e.platform.stackTraces = false := by
    have h9 : e.platform.stackTraces = l.stackTraces := by rw [X.admits.platform]
    rw [h9]; exact hl
  subst hb
  obtain ⟨U, h1, h2, h3, h4, h5, ce, h6, K⟩ := X.ctorThrowS hexec htr (own := own) (cls := cls) (names := names) (ic := ic) hown hcls hnames h (fun y hy => by cases hy) hfX hkX (a := a) (by rw [hT]; exact hcell) hnew (msg := msg) hmsg
    (g := F0 m pc ls (msg :: .ref a :: .ref a :: rest)) rfl (hls.trans hml.symm) rfl rfl (rest := rest) rfl d6 d9 (covers_of_empty hem _) hfr (by show 2 * 0 + _ + _ ≤ _; omega) hlocks
  exact ⟨U, h1, hq U ce h2 h3 h4 h5 h6 K.cls K.vm⟩
/-- 'throw new X("..")' with nothing above it that would catch it -/
theorem tx_throw {cc : ByteArray} {pc nL : Nat} {ls : Array Slot} {rest : List Value} (hexec : p.tables.exec = Jvm.exec) (hb : c.code = cc) (hl : l.stackTraces = false) {own cls : String} {names : List String} {ik is ic sa : Nat} {tx : String} {A : Nat → Prop} {Qc : Array Value → State → Outcome → State → Prop} {free : Addr → Prop}
    (hown : s.vm.findClass own = some m.cls) (hcls : Bundle.fit cls = true) (hnames : ∀ n ∈ names, Bundle.fit n = true)
    (hw : ∀ w ∈ Bundle.ownAtoms own ic cls names, ((w.onTables && w.keepsFace) = true ∧ w.before args s = true) ∨ w ∈ tx_four)
    (hck : (Cond.classLink own ik cls).before args s = true) (hini : (Cond.initialized cls).before args s = true)
    (hU : tx_St Bundle.tN "UNASSIGNED_STACK" Bundle.steD A s s.heap) (hZ : tx_St Bundle.tN "SUPPRESSED_SENTINEL" Bundle.listD A s s.heap) (hstr : vk_R own is tx sa s)
    (hS : va_S A s.heap H locs) (hf : ∀ q ∈ locs, free q.base)
    (hls : ls.size = nL) (hml : c.maxLocals = nL) (hem : c.exceptionTable.isEmpty = true) (hlocks : meth.locks = false)
    (hcells : cells + 1 ≤ R.cells) (hslots : slots + 6 ≤ R.slots) (hfr : names.length + 3 < R.frames) (hlo : 1 + (rest.map fun v => v.category).sum + (13 * (names.length + 1) + 42) ≤ R.locals)
    (d0 : decode cc pc = .ok (.new ik, 3)) (d3 : decode cc (pc + 3) = .ok (.dup, 1)) (d4 : decode cc (pc + 3 + 1) = .ok (.ldc is, 2)) (d6 : decode cc (pc + 3 + 1 + 2) = .ok (.invokespecial ic, 3)) (d9 : decode cc (pc + 3 + 1 + 2 + 3) = .ok (.athrow, 1))
    (hq : ∀ (t : State) (ce : Cell), t.heap.size = H.size + 1 → (∀ q, q < H.size → t.heap[q]? = H[q]?) → t.heap[H.size]? = some ce → s.vm.findClass cls = some ce.cls → ce.vm = .none → s.WarmedH t.vm → Qc args s (.threw H.size) t) :
    W p l e R s m args below meth c H locs cells slots (tx_MQ below Qc args s (cells + 1) (slots + 6) free) (F0 m pc ls rest) := by
  intro T hT X
  have X' := tx_rebase X (by omega) (by omega)
  have hsame0 := X.same
  have hwarm0 := X.warmed
  generalize hs' : T.setFrames (.invoking m args :: below) = s' at X'
  have hvm : s'.vm = T.vm := by rw [← hs']; rfl
  have hhp : s'.heap = H := by rw [← hs', ← hT]; rfl
  have hWs : s.WarmedH s'.vm := by rw [hvm]; exact X.warmed
  have hU' : tx_St Bundle.tN "UNASSIGNED_STACK" Bundle.steD A s' s'.heap := by rw [hhp]; exact (hU.kept hS.2.1).moved hWs.alike
  have hZ' : tx_St Bundle.tN "SUPPRESSED_SENTINEL" Bundle.listD A s' s'.heap := by rw [hhp]; exact (hZ.kept hS.2.1).moved hWs.alike
  have hat : ∀ w ∈ Bundle.ownAtoms own ic cls names, w.before args s' = true := by
    intro w hw'
    rcases hw w hw' with h | h
    · exact tx_word hWs h.1 h.2
    · simp only [tx_four, List.mem_cons, List.not_mem_nil, or_false] at h
      rcases h with rfl | rfl | rfl | rfl
      · exact hU'.lays
      · exact hU'.isRef
      · exact hZ'.lays
      · exact hZ'.isRef
  have hown' : s'.vm.findClass own = some m.cls := by rw [hWs.alike.findClass]; exact hown
  have key : W p l e { frames := R.frames, cells := R.cells - cells, slots := R.slots - slots, locals := R.locals } s' m args below meth c H [] 0 0 (tx_MQ below Qc args s (cells + 1) (slots + 6) free) (F0 m pc ls rest) := by
    refine W.newc hexec hb (C := cls) (n := 6) hown' (tx_word hWs rfl hck) (hat _ (by simp [Bundle.ownAtoms])) (tx_word hWs rfl hini) rfl d0 (by show 0 + 1 ≤ R.cells - cells; omega) (by show 0 + 6 ≤ R.slots - slots; omega) (fun cX kX hfX hkX hord hn6 => ?_)
    refine W.eq (g2 := F0 m (pc + 3) ls (.ref H.size :: rest)) rfl ?_
    refine lv_dup hexec hb d3 rfl ?_
    refine va_ldcS hexec hb hown' (hstr.warm hWs) d4 ?_
    refine tx_ctor hexec hb hl hown' hcls hnames hat hfX hkX (by simp [freshCell]) (by rw [hhp]; exact Nat.le_refl _) rfl hls hml hem hlocks hfr (by simp only [List.map_cons, List.sum_cons, Value.category]; exact hlo) d6 d9 ?_
    intro U ce hrun hend hWU hsame hce hcl hvmn
    have hlt : H.size < U.heap.size := (Array.getElem?_eq_some_iff.mp hce).1
    have hz : U.heap.size ≤ H.size + 1 := by have h9 := hsame.2.2.1; rw [hhp] at h9; exact h9
    have hold : ∀ q, q < H.size → U.heap[q]? = H[q]? := by
      intro q hq9
      have h1 : s'.heap[q]? = some H[q] := by rw [hhp]; exact Array.getElem?_eq_getElem hq9
      have h2 := hsame.old_cell h1
      rw [Array.getElem?_eq_getElem hq9]
      exact h2
    subst hs'
    have hWT : T.WarmedH U.vm := hWU
    have hT2 : T.sameButNew ({ U with vm := T.vm } : State) [] 1 6 := by
      obtain ⟨e2, q2, q3, q4, q5, q6⟩ := hsame
      refine ⟨?_, q2, q3, q4, q5, q6⟩
      rw [State.setFrames_setFrames] at e2
      exact e2
    have hall := hsame0.trans (hT2.setVm s.vm)
    rw [List.append_nil] at hall
    exact ⟨.threw H.size, hrun, hend, hq U ce (by omega) hold hce (by rw [← hWs.alike.findClass]; exact hcl) hvmn (State.WarmedH.trans hwarm0 hWT), locs, ⟨State.WarmedH.trans hwarm0 hWT, hall⟩, hf⟩
  exact key T hT X'
end TXB
