/-! Own words: shifts; what a method of the system begins and ends with; what lies around it and is never written. -/
def ju (x y : Int32) : Int32 := (x.toUInt32 >>> (y.toUInt32 &&& Int32.toUInt32 31)).toInt32
def jul (x : Int64) (y : Int32) : Int64 := (x.toUInt64 >>> (y.toInt64.toUInt64 &&& Int64.toUInt64 63)).toInt64
def jsr (x : Int64) (y : Int32) : Int64 := x >>> (y.toInt64 &&& 63)
def jsl (x : Int64) (y : Int32) : Int64 := x <<< (y.toInt64 &&& 63)
def bc_isNest : Cond → Bool
  | .fieldLinkNest .. => true
  | .methodLinkNest .. => true
  | _ => false
theorem bc_nest_ok : bc_nest.all bc_isNest = true := by decide +kernel
theorem bc_nest_warm {s U : State} (hW : s.WarmedH U.vm) (h : ∀ w ∈ bc_nest, va_Nw w s) : ∀ w ∈ bc_nest, va_Nw w U := by
  intro w hw
  have h1 := List.all_eq_true.mp bc_nest_ok w hw
  have h2 := h w hw
  cases w <;> first | exact va_Nw.warmF hW h2 | exact va_Nw.warmM hW h2 | (simp [bc_isNest] at h1)
/-- the two tables of constants of the class's hash, as its file gives them -/
def sha_hL : List Int32 := [1779033703, (-1150833019), 1013904242, (-1521486534), 1359893119, (-1694144372), 528734635, 1541459225]
def sha_kL : List Int32 := [1116352408, 1899447441, (-1245643825), (-373957723), 961987163, 1508970993, (-1841331548), (-1424204075), (-670586216), 310598401, 607225278, 1426881987, 1925078388, (-2132889090), (-1680079193), (-1046744716), (-459576895), (-272742522), 264347078, 604807628, 770255983, 1249150122, 1555081692, 1996064986, (-1740746414), (-1473132947), (-1341970488), (-1084653625), (-958395405), (-710438585), 113926993, 338241895, 666307205, 773529912, 1294757372, 1396182291, 1695183700, 1986661051, (-2117940946), (-1838011259), (-1564481375), (-1474664885), (-1035236496), (-949202525), (-778901479), (-694614492), (-200395387), 275423344, 430227734, 506948616, 659060556, 883997877, 958139571, 1322822218, 1537002063, 1747873779, 1955562222, 2024104815, (-2067236844), (-1933114872), (-1866530822), (-1538233109), (-1090935817), (-965641998)]
def sha_h (j : Nat) : Int32 := sha_hL.getD j 0
def sha_k (j : Nat) : Int32 := sha_kL.getD j 0
def bc_tabs : List (String × String × Nat × (Nat → Int32)) := [("BootChain$Sha256", "START", 8, sha_h), ("BootChain$Sha256", "ROUND_WORDS", 64, sha_k)]
/-- a static int array that nobody writes -/
def bc_tab (C n : String) (N : Nat) (f : Nat → Int32) (A : Nat → Prop) (U : State) (H : Heap) : Prop := ∃ t : Nat, va_Z C n "[I" (.ref t) A U H ∧ va_T .int t N (fun j => .int (f j)) A U H
theorem bc_tab.moved {C n : String} {N : Nat} {f : Nat → Int32} {A : Nat → Prop} {u U : State} {H : Heap} (hvm : u.vm.Alike U.vm) (h : bc_tab C n N f A u H) : bc_tab C n N f A U H := by
  obtain ⟨t, h1, h2⟩ := h
  exact ⟨t, va_Z.moved hvm h1, va_T.moved hvm h2⟩
theorem bc_tab.kept {C n : String} {N : Nat} {f : Nat → Int32} {A : Nat → Prop} {U : State} {H H1 : Heap} (h : bc_tab C n N f A U H) (hq : ∀ a : Nat, a < H.size → ¬ A a → H1[a]? = H[a]?) : bc_tab C n N f A U H1 := by
  obtain ⟨t, h1, h2⟩ := h
  exact ⟨t, h1.kept hq, h2.kept hq⟩
theorem bc_tab.narrow {C n : String} {N : Nat} {f : Nat → Int32} {A B : Nat → Prop} {U : State} {H : Heap} (h : bc_tab C n N f A U H) (hAB : ∀ q, B q → A q) : bc_tab C n N f B U H := by
  obtain ⟨t, h1, h2⟩ := h
  exact ⟨t, h1.narrow hAB, h2.narrow hAB⟩
theorem bc_face_ok : bc_face.all (fun w => w.onTables && w.keepsFace) = true := by decide +kernel
/-- what lies around: links in the nest, the tables of constants, Throwable's statics, the texts -/
def bc_E (A : Nat → Prop) (U : State) (H : Heap) : Prop := (∀ w ∈ bc_nest, va_Nw w U) ∧ (∀ q ∈ bc_tabs, bc_tab q.1 q.2.1 q.2.2.1 q.2.2.2 A U H) ∧ (tx_St Bundle.tN "UNASSIGNED_STACK" Bundle.steD A U H ∧ tx_St Bundle.tN "SUPPRESSED_SENTINEL" Bundle.listD A U H) ∧ (∀ q ∈ bc_strs, ∃ a : Nat, vk_R "BootChain" q.1 q.2 a U) ∧ ∀ w ∈ bc_face, va_Nw w U
theorem bc_E.pass {A B : Nat → Prop} {s U : State} {H : Heap} {locs : List Loc} (h : bc_E A s s.heap) (hS : va_S A s.heap H locs) (hB : ∀ q, B q → A q) (hU : U.heap = H) (hW : s.WarmedH U.vm) : bc_E B U U.heap := by
  subst hU
  refine ⟨bc_nest_warm hW h.1, fun q hq => ((h.2.1 q hq).kept hS.2.1).narrow hB |>.moved hW.alike, ⟨((h.2.2.1.1.kept hS.2.1).narrow hB).moved hW.alike, ((h.2.2.1.2.kept hS.2.1).narrow hB).moved hW.alike⟩, fun q hq => ?_, fun w hw => tx_word hW (List.all_eq_true.mp bc_face_ok w hw) (h.2.2.2.2 w hw)⟩
  obtain ⟨a, ha⟩ := h.2.2.2.1 q hq
  exact ⟨a, ha.warm hW⟩
/-- a method's start: its cells, the tables, what lies around -/
def bc_pre (D : va_G) (cI cJ : ClassId) (ws : va_W) (sz : Nat) (U : State) : Prop := U.heap.size = sz ∧ va_P D classes ws U.heap ∧ va_K D classes [(cI, .int), (cJ, .long)] U ∧ va_D (fun _ => True) ws ∧ bc_E (va_A ws sz) U U.heap
/-- and its end -/
def bc_post (D : va_G) (cI cJ : ClassId) (A : Nat → Prop) (ws : va_W) (t : State) : Prop := va_P D classes ws t.heap ∧ va_K D classes [(cI, .int), (cJ, .long)] t ∧ va_D A ws
theorem bc_blind {av : List Value} {D : va_G} {cI cJ : ClassId} {ws : va_W} {sz : Nat} : FrameBlind (va_Pc av (bc_pre D cI cJ ws sz)) := by
  intro a U g mk h
  obtain ⟨h0, h1, h2, h3, h4, h5⟩ := h
  exact ⟨h0, h1, h2, va_K.moved (u := U) (U := U.calling g mk a) (Vm.Alike.refl U.vm) h3, h4, bc_E.pass (s := U) (U := U.calling g mk a) (H := U.heap) (locs := []) h5 va_S.rf (fun _ h => h) rfl (State.WarmedH.refl U)⟩
theorem bc_give {s : State} {D : va_G} {cI cJ : ClassId} {wc : va_W} {H : Heap} {locs : List Loc} {A : Nat → Prop} (hPc : va_P D classes wc H) (hDc : va_D A wc) (hK : va_K D classes [(cI, .int), (cJ, .long)] s) (hE : bc_E A s s.heap) (hS : va_S A s.heap H locs) (hF : ∀ q, va_A wc H.size q → A q) : ∀ U : State, U.heap = H → s.WarmedH U.vm → bc_pre D cI cJ wc H.size U := by
  intro U hU hW
  refine ⟨by rw [hU], by rw [hU]; exact hPc, va_K.moved hW.alike hK, hDc.weaken (fun _ _ _ _ => trivial), hE.pass hS hF hU hW⟩
/-- the classes above a thrown one -/
def bc_up : List String := ["java/lang/RuntimeException", "java/lang/Exception"]
def bc_IAE : String := "java/lang/IllegalArgumentException"
def bc_ISE : String := "java/lang/IllegalStateException"
def bc_UOE : String := "java/lang/UnsupportedOperationException"
/-- which class is thrown: 1, 2, 3 -/
def bc_exc (k : Nat) (nm : String) : Prop := (k = 1 ∧ nm = bc_IAE) ∨ (k = 2 ∧ nm = bc_ISE) ∨ (k = 3 ∧ nm = bc_UOE)
/-- a call's outcome: 0 and the answer, or a new object of the class k was thrown -/
def bc_out (k : Nat) (R : Option Value) (st : State) (o : Outcome) (t : State) : Prop := (k = 0 ∧ o = .returned R) ∨ ∃ (x : Nat) (ce : Cell) (nm : String), o = .threw x ∧ bc_exc k nm ∧ t.heap[x]? = some ce ∧ ce.vm = .none ∧ st.vm.findClass nm = some ce.cls ∧ st.heap.size ≤ x
def bc_Qx (k : Nat) (R : Option Value) (D : va_G) (cI cJ : ClassId) (A : Nat → Prop) (ws : va_W) : Array Value → State → Outcome → State → Prop := fun _ st o t => bc_out k R st o t ∧ bc_post D cI cJ A ws t ∧ va_F A st t
/-- what holds behind a throw -/
theorem bc_thrown {s : State} {D : va_G} {cI cJ : ClassId} {ws : va_W} {A : Nat → Prop} {H : Heap} {locs : List Loc} {k : Nat} {nm : String} {R : Option Value} {a : Array Value} (hx : bc_exc k nm) (hP : va_P D classes ws H) (hK : va_K D classes [(cI, .int), (cJ, .long)] s) (hD : va_D A ws) (hS : va_S A s.heap H locs) :
    ∀ (t : State) (ce : Cell), t.heap.size = H.size + 1 → (∀ q, q < H.size → t.heap[q]? = H[q]?) → t.heap[H.size]? = some ce → s.vm.findClass nm = some ce.cls → ce.vm = .none → s.WarmedH t.vm → bc_Qx k R D cI cJ A ws a s (.threw H.size) t := by
  intro t ce hz ho hc hf hv hW
  refine ⟨Or.inr ⟨H.size, ce, nm, rfl, hx, hc, hv, hf, hS.1⟩, ⟨hP.kept (fun j x hj => ho _ ((hP j x hj).lt)), va_K.moved hW.alike hK, hD⟩, ?_, fun q h1 h2 => ?_⟩
  · rw [hz]; exact Nat.le_trans hS.1 (Nat.le_succ _)
  · rw [ho q (Nat.lt_of_lt_of_le h1 hS.1)]; exact hS.2.1 q h1 h2
/-- the words of a throw, in a method -/
theorem bc_tw {s : State} {args : Array Value} {A : Nat → Prop} {L : List Cond} (hts : ∀ w ∈ bc_G, w.before args s = true) (hE : bc_E A s s.heap) (h : ∀ w ∈ L, ((w.onTables && w.keepsFace) = true ∧ (w ∈ bc_G ∨ w ∈ bc_face)) ∨ w ∈ tx_four) : ∀ w ∈ L, ((w.onTables && w.keepsFace) = true ∧ w.before args s = true) ∨ w ∈ tx_four := by
  intro w hw
  rcases h w hw with ⟨h0, h1 | h1⟩ | h1
  · exact Or.inl ⟨h0, hts w h1⟩
  · refine Or.inl ⟨h0, ?_⟩
    simp only [Bool.and_eq_true] at h0
    exact va_Nw.use h0.1 (hE.2.2.2.2 w h1)
  · exact Or.inr h1
/-- every word of the list is steady, and the code's word besides -/
theorem bc_good {w0 : Cond} (h : w0 ∈ bc_G) : GoodIn bc_G (w0 :: bc_G) := by
  intro w hw
  rcases List.mem_cons.mp hw with rfl | hw
  · exact ⟨h, bc_G_good _ h⟩
  · exact ⟨hw, bc_G_good _ hw⟩
/-! Own rows: small numbers in loops and indices. -/
theorem lp_up {x N : Int32} (h0 : 0 ≤ x) (h1 : ¬ N ≤ x) : (0 ≤ x + 1 ∧ x + 1 ≤ N) ∧ (N.toInt - (x + 1).toInt).toNat + 1 = (N.toInt - x.toInt).toNat := by
  obtain ⟨j, hj, rfl⟩ := nI_of (Int32.not_lt.mpr h0)
  have hN : ¬ N < 0 := fun h => h1 (Int32.le_of_lt (Int32.lt_of_lt_of_le h h0))
  obtain ⟨k, hk, rfl⟩ := nI_of hN
  rw [nI_leI hk hj] at h1
  rw [nI_1, nI_leI (by omega) hk, nI_toInt hk, nI_toInt hj, nI_toInt (show j + 1 < 2 ^ 31 by omega)]
  refine ⟨⟨nI_pos' (by omega), by omega⟩, by omega⟩
theorem lp_ms {x N : Int32} {n : Nat} (h0 : 0 ≤ x) (h1 : ¬ N ≤ x) (hm : (N.toInt - x.toInt).toNat < n + 1) : (N.toInt - (x + 1).toInt).toNat < n := by
  have h := (lp_up h0 h1).2
  omega
theorem ix_lt {x N : Int32} (n : Nat) (h0 : 0 ≤ x) (h1 : ¬ N ≤ x) (hn : N = nI n) (hb : n < 2 ^ 31) : vp_in x n := by
  obtain ⟨j, hj, rfl⟩ := nI_of (Int32.not_lt.mpr h0)
  subst hn
  rw [nI_leI hb hj] at h1
  exact vp_in_nI (by omega) hb
theorem ix_off {x N : Int32} (c n k : Nat) (h0 : 0 ≤ x) (h1 : ¬ N ≤ x) (hk : N = nI k) (hb : c + k ≤ n) (hn : n < 2 ^ 31) : vp_in (nI c + x) n := by
  obtain ⟨j, hj, rfl⟩ := nI_of (Int32.not_lt.mpr h0)
  subst hk
  rw [nI_leI (by omega) hj] at h1
  rw [nI_add]
  exact vp_in_nI (by omega) hn
theorem ix_div4 {x N : Int32} (c n k : Nat) (h0 : 0 ≤ x) (h1 : ¬ N ≤ x) (hk : N = nI k) (hb : c + (k + 3) / 4 ≤ n) (hn : n < 2 ^ 31) (hk2 : k < 2 ^ 31) : vp_in (nI c + x / 4) n := by
  obtain ⟨j, hj, rfl⟩ := nI_of (Int32.not_lt.mpr h0)
  subst hk
  rw [nI_leI hk2 hj] at h1
  rw [show (4 : Int32) = nI 4 from rfl, pk_div hj (by decide) (by decide), nI_add]
  exact vp_in_nI (by omega) hn
theorem ix_d4 {x : Int32} (h0 : 0 ≤ x) (h1 : ¬ 24 ≤ x) : vp_in (x / 4) 6 := by
  obtain ⟨j, hj, rfl⟩ := nI_of (Int32.not_lt.mpr h0)
  rw [show (24 : Int32) = nI 24 from rfl, nI_leI (by decide) hj] at h1
  rw [show (4 : Int32) = nI 4 from rfl, pk_div hj (by decide) (by decide)]
  exact vp_in_nI (by omega) (by decide)
theorem ms24 {x : Int32} (h0 : 0 ≤ x) : ((24 : Int32).toInt - x.toInt).toNat < 25 := by
  have h : (0 : Int32).toInt ≤ x.toInt := Int32.le_iff_toInt_le.mp h0
  have h2 : (0 : Int32).toInt = 0 := by decide
  have h3 : (24 : Int32).toInt = 24 := by decide
  omega
theorem ix_sub {x N : Int32} (k n : Nat) (h0 : 0 ≤ x) (h1 : ¬ N ≤ x) (hN : N = nI k) (hb : k ≤ n) (hn : n < 2 ^ 31) : vp_in x n := by
  obtain ⟨j, hj, rfl⟩ := nI_of (Int32.not_lt.mpr h0)
  subst hN
  rw [nI_leI (by omega) hj] at h1
  exact vp_in_nI (by omega) hn
theorem ms_co (co : Int32) : (co.toInt - (0 : Int32).toInt).toNat < co.toInt.toNat + 1 := by
  have h2 : (0 : Int32).toInt = 0 := by decide
  omega
theorem le_16 {x : Int32} (h : 16 ≤ x) : 0 ≤ x := by
  rw [Int32.le_iff_toInt_le] at h ⊢
  have h2 : (0 : Int32).toInt = 0 := by decide
  have h3 : (16 : Int32).toInt = 16 := by decide
  omega
theorem lp_up16 {x : Int32} (h0 : 16 ≤ x) (h1 : ¬ 64 ≤ x) : 16 ≤ x + 1 ∧ x + 1 ≤ 64 := by
  obtain ⟨j, hj, rfl⟩ := nI_of (Int32.not_lt.mpr (le_16 h0))
  rw [show (16 : Int32) = nI 16 from rfl, nI_leI (by decide) hj] at h0
  rw [show (64 : Int32) = nI 64 from rfl, nI_leI (by decide) hj] at h1
  rw [nI_1, show (16 : Int32) = nI 16 from rfl, show (64 : Int32) = nI 64 from rfl, nI_leI (by decide) (by omega), nI_leI (by omega) (by decide)]
  omega
theorem ix_min {x : Int32} (c n : Nat) (h0 : 16 ≤ x) (h1 : ¬ 64 ≤ x) (hc : c ≤ 16 ∧ 64 - c ≤ n ∧ n < 2 ^ 31 ∧ 0 < c) : vp_in (x - nI c) n := by
  obtain ⟨j, hj, rfl⟩ := nI_of (Int32.not_lt.mpr (le_16 h0))
  rw [show (16 : Int32) = nI 16 from rfl, nI_leI (by decide) hj] at h0
  rw [show (64 : Int32) = nI 64 from rfl, nI_leI (by decide) hj] at h1
  rw [pk_sub (by omega)]
  exact vp_in_nI (by omega) hc.2.2.1
theorem ix_bl {b x : Int32} (hb : b = 0 ∨ b = 16) (h0 : 0 ≤ x) (h1 : ¬ 16 ≤ x) : vp_in (b + x) 32 := by
  rcases hb with rfl | rfl
  · exact ix_off 0 32 16 h0 h1 rfl (by decide) (by decide)
  · exact ix_off 16 32 16 h0 h1 rfl (by decide) (by decide)
theorem ix_p1 {x : Int32} (h : 0 ≤ x ∧ x ≤ 24) : vp_in x 32 := by
  obtain ⟨j, hj, rfl⟩ := nI_of (Int32.not_lt.mpr h.1)
  have h2 := h.2
  rw [show (24 : Int32) = nI 24 from rfl, nI_leI hj (by decide)] at h2
  exact vp_in_nI (by omega) (by decide)
theorem ix_p2 {x e : Int32} (h0 : 0 ≤ x) (he : e = 16 ∨ e = 32) (h1 : ¬ e - 1 ≤ x) : vp_in x 32 := by
  rcases he with rfl | rfl
  · exact ix_sub 15 32 h0 h1 (by decide) (by decide) (by decide)
  · exact ix_sub 31 32 h0 h1 (by decide) (by decide) (by decide)
theorem ix_p3 {e : Int32} (he : e = 16 ∨ e = 32) : vp_in (e - 1) 32 := by
  rcases he with rfl | rfl <;> (unfold vp_in; decide +kernel)
theorem ix_p4 {x : Int32} (h : 0 ≤ x ∧ x ≤ 24) : 0 ≤ x + 1 := by
  obtain ⟨j, hj, rfl⟩ := nI_of (Int32.not_lt.mpr h.1)
  have h2 := h.2
  rw [show (24 : Int32) = nI 24 from rfl, nI_leI hj (by decide)] at h2
  rw [nI_1]
  exact nI_pos' (by omega)
theorem ms_pad {x e : Int32} (h : 0 ≤ x ∧ x ≤ 24) (he : e = 16 ∨ e = 32) : ((e - 1).toInt - (x + 1).toInt).toNat < 34 := by
  have h3 := Int32.le_iff_toInt_le.mp (ix_p4 h)
  have h4 : (0 : Int32).toInt = 0 := by decide
  rcases he with rfl | rfl
  · have h5 : ((16 : Int32) - 1).toInt = 15 := by decide
    omega
  · have h5 : ((32 : Int32) - 1).toInt = 31 := by decide
    omega
theorem ix_rem8 {x : Int32} (h0 : 0 ≤ x) : vp_in (x - x / 8 * 8) 8 := by
  obtain ⟨j, hj, rfl⟩ := nI_of (Int32.not_lt.mpr h0)
  rw [show (8 : Int32) = nI 8 from rfl, pk_rem hj (by decide) (by decide)]
  exact vp_in_nI (Nat.mod_lt _ (by decide)) (by decide)
theorem p64 {x : Int32} (h0 : 0 ≤ x) (h1 : ¬ 64 ≤ x) : ∃ j : Nat, j ≤ 64 ∧ 64 - x = nI j := by
  obtain ⟨j, hj, rfl⟩ := nI_of (Int32.not_lt.mpr h0)
  rw [show (64 : Int32) = nI 64 from rfl, nI_leI (by decide) hj] at h1
  exact ⟨64 - j, by omega, by rw [show (64 : Int32) = nI 64 from rfl, pk_sub (by omega)]⟩
theorem p64c {x : Int32} (c : Nat) (h0 : 0 ≤ x) (h1 : ¬ 64 ≤ x) (hc : c < 100) : 0 ≤ (64 - x) + nI c := by
  obtain ⟨j, hj, e⟩ := p64 h0 h1
  rw [e, nI_add]
  exact nI_pos' (by omega)
theorem p64z {x : Int32} (h0 : 0 ≤ x) (h1 : ¬ 64 ≤ x) : 0 ≤ (64 - x) := by
  obtain ⟨j, hj, e⟩ := p64 h0 h1
  rw [e]
  exact nI_pos' (by omega)
