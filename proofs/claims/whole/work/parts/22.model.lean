theorem nI_le_lit {j k : Nat} (hj : j < 2 ^ 31) (hk : k < 2 ^ 31) : (nI k ≤ nI j) = (k ≤ j) := propext (nI_leI hk hj)
theorem mo_cntL (fi : Int32) (c : Nat) (hc : c < 2 ^ 31) (th le lo da si : Int32) (tx : Nat → Int64) : ∀ (n j k : Nat) (g : Nat → Int64), j ≤ c → c - j < n → (f_MO_addCount_2 fi (nI c) th le lo da si tx n (nI j) (nI k) g).1 = nI (k + (c - j)) := by
  intro n
  induction n with
  | zero => intro j k g _ h; exact absurd h (Nat.not_lt_zero _)
  | succ n ih =>
    intro j k g hj h
    rw [f_MO_addCount_2]
    by_cases hq : c ≤ j
    · rw [if_pos ((nI_leI hc (by omega)).mpr hq)]
      have e : c - j = 0 := by omega
      rw [e]; rfl
    · rw [if_neg (fun z => hq ((nI_leI hc (by omega)).mp z))]
      show (f_MO_addCount_2 fi (nI c) th le lo da si tx n (nI j + 1) (nI k + 1) _).1 = _
      rw [nI_1, nI_1, ih (j + 1) (k + 1) _ (by omega) (by omega)]
      congr 1; omega
theorem mo_cnt {fi th le lo da si : Int32} {tx : Nat → Int64} (k c : Nat) (hs : si = nI k) (hc : c ≤ 24) : (f_MO_addCount fi (nI c) th le lo da si tx).1 = nI (k + c) := by
  subst hs
  unfold f_MO_addCount
  have e := mo_cntL fi c (by omega) th le lo da (nI k) tx ((nI c).toInt.toNat + 1) 0 k tx (by omega) (by rw [nI_toInt (by omega)]; simp)
  exact e
theorem mo_rowL (N : Nat) (fr : Int32) (c : Nat) (hc : c < 2 ^ 31) (th le lo da si : Int32) (tx : Nat → Int64) (rr : Nat → Int32) : ∀ (n j k : Nat) (g : Nat → Int64), j ≤ c → c - j < n → (f_MO_addFrom_3 N fr (nI c) th le lo da si tx rr n (nI j) (nI k) g).1 = nI (k + (c - j)) := by
  intro n
  induction n with
  | zero => intro j k g _ h; exact absurd h (Nat.not_lt_zero _)
  | succ n ih =>
    intro j k g hj h
    rw [f_MO_addFrom_3]
    by_cases hq : c ≤ j
    · rw [if_pos ((nI_leI hc (by omega)).mpr hq)]
      have e : c - j = 0 := by omega
      rw [e]; rfl
    · rw [if_neg (fun z => hq ((nI_leI hc (by omega)).mp z))]
      show (f_MO_addFrom_3 N fr (nI c) th le lo da si tx rr n (nI j + 1) (nI k + 1) _).1 = _
      rw [nI_1, nI_1, ih (j + 1) (k + 1) _ (by omega) (by omega)]
      congr 1; omega
theorem mo_row {N : Nat} {fr th le lo da si : Int32} {tx : Nat → Int64} {rr : Nat → Int32} (k c : Nat) (hs : si = nI k) (hc : c ≤ 24) : (f_MO_addFrom N fr (nI c) th le lo da si tx rr).1 = nI (k + c) := by
  subst hs
  unfold f_MO_addFrom
  have e := mo_rowL N fr c (by omega) th le lo da (nI k) tx rr ((nI c).toInt.toNat + 1) 0 k tx (by omega) (by rw [nI_toInt (by omega)]; simp)
  exact e
theorem ad_of {x : Int32} {k : Nat} (h : x = nI k) (c : Nat) (hk : k + c ≤ 24) : ad_ok x (nI c) := by
  subst h
  refine ⟨nI_pos' (by omega), nI_pos' (by omega), ?_⟩
  rw [nI_toInt (by omega), nI_toInt (by omega)]
  omega
theorem sz_ok {x : Int32} {k : Nat} (h : x = nI k) (hk : k ≤ 24) : 0 ≤ x ∧ x ≤ 24 := by
  subst h
  exact ⟨nI_pos' (by omega), by rw [show (24 : Int32) = nI 24 from rfl]; exact (nI_leI (by omega) (by decide)).mpr hk⟩
theorem mo_h96 (th le lo da si : Int32) (kc bg tx wi nw vv : Nat → Int64) (aw_ : Nat → Int32) : ∀ (n : Nat) (x3 y : Int32) (y3 y4 y5 y6 : Nat → Int64) (y7 : Nat → Int32), (f_MO_hashText_96 th le lo da si kc bg tx wi nw vv aw_ n x3 y y3 y4 y5 y6 y7).1 = 0 := by
  intro n
  induction n with
  | zero => intros; rfl
  | succ n ih => intro x3 y y3 y4 y5 y6 y7; rw [f_MO_hashText_96]; split; rfl; exact ih _ _ _ _ _ _ _
theorem mo_h75 (th le lo da si : Int32) (kc bg tx wi nw vv : Nat → Int64) (aw_ : Nat → Int32) : ∀ (n : Nat) (x3 y : Int32) (y3 y4 y5 y6 : Nat → Int64) (y7 : Nat → Int32), (f_MO_hashText_75 th le lo da si kc bg tx wi nw vv aw_ n x3 y y3 y4 y5 y6 y7).1 = 0 := by
  intro n
  induction n with
  | zero => intros; rfl
  | succ n ih => intro x3 y y3 y4 y5 y6 y7; rw [f_MO_hashText_75]; split; exact mo_h96 _ _ _ _ _ _ _ _ _ _ _ _ _ _ _ _ _ _ _ _; exact ih _ _ _ _ _ _ _
theorem mo_h49 (th le lo da si : Int32) (kc bg tx wi nw vv : Nat → Int64) (aw_ : Nat → Int32) : ∀ (n : Nat) (x3 y : Int32) (y3 y4 y5 y6 : Nat → Int64) (y7 : Nat → Int32), (f_MO_hashText_49 th le lo da si kc bg tx wi nw vv aw_ n x3 y y3 y4 y5 y6 y7).1 = 0 := by
  intro n
  induction n with
  | zero => intros; rfl
  | succ n ih => intro x3 y y3 y4 y5 y6 y7; rw [f_MO_hashText_49]; split; exact mo_h75 _ _ _ _ _ _ _ _ _ _ _ _ _ _ _ _ _ _ _ _; exact ih _ _ _ _ _ _ _
theorem mo_h16 (th le lo da si : Int32) (kc bg tx wi nw vv : Nat → Int64) (aw_ : Nat → Int32) : ∀ (n : Nat) (x1 : Int64) (y : Int32) (y3 y4 y5 y6 : Nat → Int64) (y7 : Nat → Int32), (f_MO_hashText_16 th le lo da si kc bg tx wi nw vv aw_ n x1 y y3 y4 y5 y6 y7).1 = 0 := by
  intro n
  induction n with
  | zero => intros; rfl
  | succ n ih => intro x1 y y3 y4 y5 y6 y7; rw [f_MO_hashText_16]; split; exact mo_h49 _ _ _ _ _ _ _ _ _ _ _ _ _ _ _ _ _ _ _ _; exact ih _ _ _ _ _ _ _
theorem mo_hash0 (th le lo da si : Int32) (kc bg tx wi nw vv : Nat → Int64) (aw_ : Nat → Int32) : (f_MO_hashText th le lo da si kc bg tx wi nw vv aw_).1 = 0 := by
  unfold f_MO_hashText
  exact mo_h16 _ _ _ _ _ _ _ _ _ _ _ _ _ _ _ _ _ _ _ _
theorem ro_fl {so : Int32} (h : 0 ≤ so ∧ so < 4) : ∀ x : Int32, 0 ≤ x → ¬ 7 ≤ x → vp_in (16 * so + x) 70 := by
  intro x h0 h1
  rcases sl_cases h with rfl | rfl | rfl | rfl
  · exact ix_off 0 70 7 h0 h1 rfl (by decide) (by decide)
  · exact ix_off 16 70 7 h0 h1 rfl (by decide) (by decide)
  · exact ix_off 32 70 7 h0 h1 rfl (by decide) (by decide)
  · exact ix_off 48 70 7 h0 h1 rfl (by decide) (by decide)
theorem ix_16 {so : Int32} (h : 0 ≤ so ∧ so < 4) : vp_in (16 * so) 70 := by
  rcases sl_cases h with rfl | rfl | rfl | rfl <;> (unfold vp_in; decide +kernel)
theorem out_ok {k l : Int32} (h : f_MO_out k l = 0) : 0 ≤ k ∧ ¬ l ≤ k := by
  unfold f_MO_out at h
  by_cases h0 : k < 0
  · rw [if_pos h0] at h; exact absurd h (by decide)
  · rw [if_neg h0] at h
    by_cases h1 : l ≤ k
    · simp [h1] at h
    · exact ⟨Int32.not_lt.mp h0, h1⟩
theorem out2 {k : Int32} (h : f_MO_out k 2 = 0) : k = 0 ∨ k = 1 := st_loop (out_ok h).1 (out_ok h).2

-- MO_versionOf
theorem d_MO_versionOf_0 : decode prog_8_method_19_code 0 = .ok (.aload_n 0, 1) := by decide +kernel
theorem d_MO_versionOf_1 : decode prog_8_method_19_code 1 = .ok (.getfield 7, 3) := by decide +kernel
theorem d_MO_versionOf_4 : decode prog_8_method_19_code 4 = .ok (.bipush 16, 2) := by decide +kernel
theorem d_MO_versionOf_6 : decode prog_8_method_19_code 6 = .ok (.iload_n 1, 1) := by decide +kernel
theorem d_MO_versionOf_7 : decode prog_8_method_19_code 7 = .ok (.imul, 1) := by decide +kernel
theorem d_MO_versionOf_8 : decode prog_8_method_19_code 8 = .ok (.iaload, 1) := by decide +kernel
theorem d_MO_versionOf_9 : decode prog_8_method_19_code 9 = .ok (.bipush 8, 2) := by decide +kernel
theorem d_MO_versionOf_11 : decode prog_8_method_19_code 11 = .ok (.ishr, 1) := by decide +kernel
theorem d_MO_versionOf_12 : decode prog_8_method_19_code 12 = .ok (.sipush 255, 3) := by decide +kernel
theorem d_MO_versionOf_15 : decode prog_8_method_19_code 15 = .ok (.iand, 1) := by decide +kernel
theorem d_MO_versionOf_16 : decode prog_8_method_19_code 16 = .ok (.ireturn, 1) := by decide +kernel
def y_MO_versionOf : MethodName := ⟨"BootChainModel", "versionOf", "(I)I"⟩
def ws_MO_versionOf : List Cond := .code y_MO_versionOf prog_8_method_19_code 2 (some .int) :: bc_G
def f_MO_versionOf (so : Int32) (th : Int32) (le : Int32) (lo : Int32) (da : Int32) (si : Int32) (fl : Nat → Int32) : Int32 := (((fl (((16 : Int32) * so)).toNatClampNeg) >>> ((8 : Int32) &&& 31)) &&& (255 : Int32))
set_option maxHeartbeats 4000000 in
set_option maxRecDepth 100000 in
theorem c_MO_versionOf (l : Launch) (dC : Nat → ClassId) (dI : Nat → Nat → Nat) (cI cJ : ClassId) (h af ak ar ag ad ac ab ax aw an av aa : Nat) (sz : Nat) (so : Int32) (th : Int32) (le : Int32) (lo : Int32) (da : Int32) (si : Int32) (fl : Nat → Int32) (hso : 0 ≤ so ∧ so < 4) : Met l y_MO_versionOf ws_MO_versionOf ({ frames := 0, cells := 0, slots := 0, locals := 0 } : Room) (va_Pc [.ref h, .int so] (bc_pre (dC, dI) cI cJ [(h, .inr (5, [.int th, .ref af, .ref ak, .ref ar, .ref ag, .int le, .int lo, .int da, .ref ad, .ref ac, .ref ab, .int si, .ref ax, .ref aw, .ref an, .ref av, .ref aa])), (af, .inl (cI, 70, .inl fl))] sz)) (va_Qi (fun (r : Int32) (_ : Unit) => r = (f_MO_versionOf so th le lo da si fl)) (fun _ => bc_post (dC, dI) cI cJ (va_A [(h, .inr (5, [.int th, .ref af, .ref ak, .ref ar, .ref ag, .int le, .int lo, .int da, .ref ad, .ref ac, .ref ab, .int si, .ref ax, .ref aw, .ref an, .ref av, .ref aa])), (af, .inl (cI, 70, .inl fl))] sz) [(h, .inr (5, [.int th, .ref af, .ref ak, .ref ar, .ref ag, .int le, .int lo, .int da, .ref ad, .ref ac, .ref ab, .int si, .ref ax, .ref aw, .ref an, .ref av, .ref aa])), (af, .inl (cI, 70, .inl fl))]) (va_A [(h, .inr (5, [.int th, .ref af, .ref ak, .ref ar, .ref ag, .int le, .int lo, .int da, .ref ad, .ref ac, .ref ab, .int si, .ref ax, .ref aw, .ref an, .ref av, .ref aa])), (af, .inl (cI, 70, .inl fl))] sz)) 0 0 (va_A [(h, .inr (5, [.int th, .ref af, .ref ak, .ref ar, .ref ag, .int le, .int lo, .int da, .ref ad, .ref ac, .ref ab, .int si, .ref ax, .ref aw, .ref an, .ref av, .ref aa])), (af, .inl (cI, 70, .inl fl))] sz) := by
  refine Met.ofW (cc := prog_8_method_19_code) (maxL := 2) (ret := (some .int)) (by decide) rfl ?_
  intro p e s m args below meth c s₁ B hml hv
  obtain ⟨rfl, hsz, hP, hK, hD0, hE⟩ := hv
  have hx := B.exec
  have hb := B.bytes
  have hr := B.returns
  have hts : ∀ w ∈ bc_G, w.before ([.ref h, .int so] : List Value).toArray s = true := fun w h => atoms_spec (ws := ws_MO_versionOf) B.pre w (List.mem_cons_of_mem _ h)
  have hown : s.vm.findClass "BootChainModel" = some m.cls := findClass_of_methodNamed B.named
  have hlocks := B.notSynchronized
  subst hsz
  have hD := hD0.self (sz := s.heap.size)
  generalize hAe : va_A [(h, .inr (5, [.int th, .ref af, .ref ak, .ref ar, .ref ag, .int le, .int lo, .int da, .ref ad, .ref ac, .ref ab, .int si, .ref ax, .ref aw, .ref an, .ref av, .ref aa])), (af, .inl (cI, 70, .inl fl))] s.heap.size = A at hD hE ⊢
  have hA : ∀ q : Nat, s.heap.size ≤ q → A q := fun q h => by rw [← hAe]; exact Or.inr h
  have hS : va_S A s.heap s.heap [] := va_S.rf
  have hl := lv_entry ([.ref h, .int so]) (n := 2) (Nat.le_of_ble_eq_true rfl)
  rw [lg_entry_eq]
  generalize (lg_sl ([.ref h, .int so]) ++ List.replicate (2 - (lg_sl ([.ref h, .int so])).length) Slot.unset).toArray = ls at hl ⊢
  have hl : lv_has ls 2 [(0, .ref h), (1, .int so)] := hl
  refine lv_aload_n hx hb d_MO_versionOf_0 rfl (lv_at hl 0 rfl) ?_
  refine va_get (D := (dC, dI)) (ci := 5) (v := .ref af) (C := R_MO) (T := F_MO) (N := 17) hx hb hts in_MO hown hK hP 0 rfl rfl 1 (by decide) (hts _ gw_519) (fun _ h9 => h9) rfl d_MO_versionOf_1 ?_
  refine lv_bipush (v := 16) hx hb d_MO_versionOf_4 (by decide) ?_
  refine lv_iload_n hx hb d_MO_versionOf_6 rfl (lv_at hl 1 rfl) ?_
  refine lv_imul hx hb d_MO_versionOf_7 ?_
  refine va_iald hx hb hK hP 1 0 rfl rfl (ix_16 hso) d_MO_versionOf_8 ?_
  refine lv_bipush (v := 8) hx hb d_MO_versionOf_9 (by decide) ?_
  refine lv_ishr hx hb d_MO_versionOf_11 ?_
  refine lv_sipush (v := 255) hx hb d_MO_versionOf_12 (by decide) ?_
  refine lv_iand hx hb d_MO_versionOf_15 ?_
  have e0 : (f_MO_versionOf so th le lo da si fl) = (((fl (((16 : Int32) * so)).toNatClampNeg) >>> ((8 : Int32) &&& 31)) &&& (255 : Int32)) := by rw [f_MO_versionOf]
  rw [e0]
  exact W.iret (v := (((fl (((16 : Int32) * so)).toNatClampNeg) >>> ((8 : Int32) &&& 31)) &&& (255 : Int32))) hx hb hr (fun t ht hW => ⟨⟨(((fl (((16 : Int32) * so)).toNatClampNeg) >>> ((8 : Int32) &&& 31)) &&& (255 : Int32)), (), rfl, rfl, by rw [ht]; exact hP, va_K.moved hW.alike hK, hD⟩, hS.F ht⟩) hS.2.2 d_MO_versionOf_16
-- MO_seal
theorem d_MO_seal_0 : decode prog_8_method_18_code 0 = .ok (.aload_n 0, 1) := by decide +kernel
theorem d_MO_seal_1 : decode prog_8_method_18_code 1 = .ok (.iconst 1, 1) := by decide +kernel
theorem d_MO_seal_2 : decode prog_8_method_18_code 2 = .ok (.iconst 4, 1) := by decide +kernel
theorem d_MO_seal_3 : decode prog_8_method_18_code 3 = .ok (.iload_n 3, 1) := by decide +kernel
theorem d_MO_seal_4 : decode prog_8_method_18_code 4 = .ok (.imul, 1) := by decide +kernel
theorem d_MO_seal_5 : decode prog_8_method_18_code 5 = .ok (.iadd, 1) := by decide +kernel
theorem d_MO_seal_6 : decode prog_8_method_18_code 6 = .ok (.iconst 4, 1) := by decide +kernel
theorem d_MO_seal_7 : decode prog_8_method_18_code 7 = .ok (.invokevirtual 233, 3) := by decide +kernel
theorem d_MO_seal_10 : decode prog_8_method_18_code 10 = .ok (.aload_n 0, 1) := by decide +kernel
theorem d_MO_seal_11 : decode prog_8_method_18_code 11 = .ok (.aload_n 1, 1) := by decide +kernel
theorem d_MO_seal_12 : decode prog_8_method_18_code 12 = .ok (.iload_n 2, 1) := by decide +kernel
theorem d_MO_seal_13 : decode prog_8_method_18_code 13 = .ok (.bipush 7, 2) := by decide +kernel
theorem d_MO_seal_15 : decode prog_8_method_18_code 15 = .ok (.invokevirtual 236, 3) := by decide +kernel
theorem d_MO_seal_18 : decode prog_8_method_18_code 18 = .ok (.aload_n 0, 1) := by decide +kernel
theorem d_MO_seal_19 : decode prog_8_method_18_code 19 = .ok (.iconst 1, 1) := by decide +kernel
theorem d_MO_seal_20 : decode prog_8_method_18_code 20 = .ok (.iconst 4, 1) := by decide +kernel
theorem d_MO_seal_21 : decode prog_8_method_18_code 21 = .ok (.iload_n 3, 1) := by decide +kernel
theorem d_MO_seal_22 : decode prog_8_method_18_code 22 = .ok (.imul, 1) := by decide +kernel
theorem d_MO_seal_23 : decode prog_8_method_18_code 23 = .ok (.iadd, 1) := by decide +kernel
theorem d_MO_seal_24 : decode prog_8_method_18_code 24 = .ok (.iconst 4, 1) := by decide +kernel
theorem d_MO_seal_25 : decode prog_8_method_18_code 25 = .ok (.invokevirtual 233, 3) := by decide +kernel
theorem d_MO_seal_28 : decode prog_8_method_18_code 28 = .ok (.aload_n 0, 1) := by decide +kernel
theorem d_MO_seal_29 : decode prog_8_method_18_code 29 = .ok (.invokevirtual 240, 3) := by decide +kernel
theorem d_MO_seal_32 : decode prog_8_method_18_code 32 = .ok (.return_, 1) := by decide +kernel
def y_MO_seal : MethodName := ⟨"BootChainModel", "seal", "([III)V"⟩
def ws_MO_seal : List Cond := .code y_MO_seal prog_8_method_18_code 4 none :: bc_G
def f_MO_seal_c4 (N : Nat) (at0 : Int32) (sg : Int32) (th : Int32) (le : Int32) (lo : Int32) (da : Int32) (si : Int32) (kc : Nat → Int64) (bg : Nat → Int64) (tx : Nat → Int64) (wi : Nat → Int64) (nw : Nat → Int64) (vv : Nat → Int64) (aw_ : Nat → Int32) (rr : Nat → Int32) (u1 : Int32 × (Nat → Int64)) (u2 : Int32 × (Nat → Int64)) (u3 : Int32 × (Nat → Int64)) (u4 : Int32 × (Nat → Int64) × (Nat → Int64) × (Nat → Int64) × (Nat → Int64) × (Nat → Int32)) : Int32 × (Nat → Int64) × (Nat → Int64) × (Nat → Int64) × (Nat → Int64) × (Nat → Int32) := ((u4.1), (u4.2.1), (u4.2.2.1), (u4.2.2.2.1), (u4.2.2.2.2.1), (u4.2.2.2.2.2))
def f_MO_seal_c3 (N : Nat) (at0 : Int32) (sg : Int32) (th : Int32) (le : Int32) (lo : Int32) (da : Int32) (si : Int32) (kc : Nat → Int64) (bg : Nat → Int64) (tx : Nat → Int64) (wi : Nat → Int64) (nw : Nat → Int64) (vv : Nat → Int64) (aw_ : Nat → Int32) (rr : Nat → Int32) (u1 : Int32 × (Nat → Int64)) (u2 : Int32 × (Nat → Int64)) (u3 : Int32 × (Nat → Int64)) : Int32 × (Nat → Int64) × (Nat → Int64) × (Nat → Int64) × (Nat → Int64) × (Nat → Int32) := f_MO_seal_c4 N at0 sg th le lo da si kc bg tx wi nw vv aw_ rr u1 u2 u3 (f_MO_hashText th le lo da (u3.1) kc bg (u3.2) wi nw vv aw_)
def f_MO_seal_c2 (N : Nat) (at0 : Int32) (sg : Int32) (th : Int32) (le : Int32) (lo : Int32) (da : Int32) (si : Int32) (kc : Nat → Int64) (bg : Nat → Int64) (tx : Nat → Int64) (wi : Nat → Int64) (nw : Nat → Int64) (vv : Nat → Int64) (aw_ : Nat → Int32) (rr : Nat → Int32) (u1 : Int32 × (Nat → Int64)) (u2 : Int32 × (Nat → Int64)) : Int32 × (Nat → Int64) × (Nat → Int64) × (Nat → Int64) × (Nat → Int64) × (Nat → Int32) := f_MO_seal_c3 N at0 sg th le lo da si kc bg tx wi nw vv aw_ rr u1 u2 (f_MO_addCount ((1 : Int32) + ((4 : Int32) * sg)) (4 : Int32) th le lo da (u2.1) (u2.2))
def f_MO_seal_c1 (N : Nat) (at0 : Int32) (sg : Int32) (th : Int32) (le : Int32) (lo : Int32) (da : Int32) (si : Int32) (kc : Nat → Int64) (bg : Nat → Int64) (tx : Nat → Int64) (wi : Nat → Int64) (nw : Nat → Int64) (vv : Nat → Int64) (aw_ : Nat → Int32) (rr : Nat → Int32) (u1 : Int32 × (Nat → Int64)) : Int32 × (Nat → Int64) × (Nat → Int64) × (Nat → Int64) × (Nat → Int64) × (Nat → Int32) := f_MO_seal_c2 N at0 sg th le lo da si kc bg tx wi nw vv aw_ rr u1 (f_MO_addFrom N at0 (7 : Int32) th le lo da (u1.1) (u1.2) rr)
def f_MO_seal (N : Nat) (at0 : Int32) (sg : Int32) (th : Int32) (le : Int32) (lo : Int32) (da : Int32) (si : Int32) (kc : Nat → Int64) (bg : Nat → Int64) (tx : Nat → Int64) (wi : Nat → Int64) (nw : Nat → Int64) (vv : Nat → Int64) (aw_ : Nat → Int32) (rr : Nat → Int32) : Int32 × (Nat → Int64) × (Nat → Int64) × (Nat → Int64) × (Nat → Int64) × (Nat → Int32) := f_MO_seal_c1 N at0 sg th le lo da si kc bg tx wi nw vv aw_ rr (f_MO_addCount ((1 : Int32) + ((4 : Int32) * sg)) (4 : Int32) th le lo da si tx)
set_option maxHeartbeats 4000000 in
set_option maxRecDepth 100000 in
theorem c_MO_seal (l : Launch) (dC : Nat → ClassId) (dI : Nat → Nat → Nat) (cI cJ : ClassId) (h rh af ak ar ag ad ac ab ax aw an av aa : Nat) (sz : Nat) (N : Nat) (at0 : Int32) (sg : Int32) (th : Int32) (le : Int32) (lo : Int32) (da : Int32) (si : Int32) (kc : Nat → Int64) (bg : Nat → Int64) (tx : Nat → Int64) (wi : Nat → Int64) (nw : Nat → Int64) (vv : Nat → Int64) (aw_ : Nat → Int32) (rr : Nat → Int32) (hsi : si = 0) (hro : ∀ x : Int32, 0 ≤ x → ¬ 7 ≤ x → vp_in (at0 + x) N) : Met l y_MO_seal ws_MO_seal ({ frames := 3, cells := 0, slots := 0, locals := 84 } : Room) (va_Pc [.ref h, .ref rh, .int at0, .int sg] (bc_pre (dC, dI) cI cJ [(h, .inr (5, [.int th, .ref af, .ref ak, .ref ar, .ref ag, .int le, .int lo, .int da, .ref ad, .ref ac, .ref ab, .int si, .ref ax, .ref aw, .ref an, .ref av, .ref aa])), (ac, .inl (cJ, 64, .inr (.inl kc))), (ab, .inl (cJ, 8, .inr (.inl bg))), (ax, .inl (cJ, 48, .inr (.inl tx))), (aw, .inl (cJ, 64, .inr (.inl wi))), (an, .inl (cJ, 8, .inr (.inl nw))), (av, .inl (cJ, 8, .inr (.inl vv))), (aa, .inl (cI, 8, .inl aw_)), (rh, .inl (cI, N, .inl rr))] sz)) (va_Qv (fun (_ : Unit) => True) (fun _ => bc_post (dC, dI) cI cJ (va_A [(h, .inr (5, [.int th, .ref af, .ref ak, .ref ar, .ref ag, .int le, .int lo, .int da, .ref ad, .ref ac, .ref ab, .int si, .ref ax, .ref aw, .ref an, .ref av, .ref aa])), (ac, .inl (cJ, 64, .inr (.inl kc))), (ab, .inl (cJ, 8, .inr (.inl bg))), (ax, .inl (cJ, 48, .inr (.inl tx))), (aw, .inl (cJ, 64, .inr (.inl wi))), (an, .inl (cJ, 8, .inr (.inl nw))), (av, .inl (cJ, 8, .inr (.inl vv))), (aa, .inl (cI, 8, .inl aw_)), (rh, .inl (cI, N, .inl rr))] sz) [(h, .inr (5, [.int th, .ref af, .ref ak, .ref ar, .ref ag, .int le, .int lo, .int da, .ref ad, .ref ac, .ref ab, .int (f_MO_seal N at0 sg th le lo da si kc bg tx wi nw vv aw_ rr).1, .ref ax, .ref aw, .ref an, .ref av, .ref aa])), (ac, .inl (cJ, 64, .inr (.inl kc))), (ab, .inl (cJ, 8, .inr (.inl bg))), (ax, .inl (cJ, 48, .inr (.inl (f_MO_seal N at0 sg th le lo da si kc bg tx wi nw vv aw_ rr).2.1))), (aw, .inl (cJ, 64, .inr (.inl (f_MO_seal N at0 sg th le lo da si kc bg tx wi nw vv aw_ rr).2.2.1))), (an, .inl (cJ, 8, .inr (.inl (f_MO_seal N at0 sg th le lo da si kc bg tx wi nw vv aw_ rr).2.2.2.1))), (av, .inl (cJ, 8, .inr (.inl (f_MO_seal N at0 sg th le lo da si kc bg tx wi nw vv aw_ rr).2.2.2.2.1))), (aa, .inl (cI, 8, .inl (f_MO_seal N at0 sg th le lo da si kc bg tx wi nw vv aw_ rr).2.2.2.2.2)), (rh, .inl (cI, N, .inl rr))]) (va_A [(h, .inr (5, [.int th, .ref af, .ref ak, .ref ar, .ref ag, .int le, .int lo, .int da, .ref ad, .ref ac, .ref ab, .int si, .ref ax, .ref aw, .ref an, .ref av, .ref aa])), (ac, .inl (cJ, 64, .inr (.inl kc))), (ab, .inl (cJ, 8, .inr (.inl bg))), (ax, .inl (cJ, 48, .inr (.inl tx))), (aw, .inl (cJ, 64, .inr (.inl wi))), (an, .inl (cJ, 8, .inr (.inl nw))), (av, .inl (cJ, 8, .inr (.inl vv))), (aa, .inl (cI, 8, .inl aw_)), (rh, .inl (cI, N, .inl rr))] sz)) 0 0 (va_A [(h, .inr (5, [.int th, .ref af, .ref ak, .ref ar, .ref ag, .int le, .int lo, .int da, .ref ad, .ref ac, .ref ab, .int si, .ref ax, .ref aw, .ref an, .ref av, .ref aa])), (ac, .inl (cJ, 64, .inr (.inl kc))), (ab, .inl (cJ, 8, .inr (.inl bg))), (ax, .inl (cJ, 48, .inr (.inl tx))), (aw, .inl (cJ, 64, .inr (.inl wi))), (an, .inl (cJ, 8, .inr (.inl nw))), (av, .inl (cJ, 8, .inr (.inl vv))), (aa, .inl (cI, 8, .inl aw_)), (rh, .inl (cI, N, .inl rr))] sz) := by
  refine Met.ofW (cc := prog_8_method_18_code) (maxL := 4) (ret := none) (by decide) rfl ?_
  intro p e s m args below meth c s₁ B hml hv
  obtain ⟨rfl, hsz, hP, hK, hD0, hE⟩ := hv
  have hx := B.exec
  have hb := B.bytes
  have hr := B.returns
  have hts : ∀ w ∈ bc_G, w.before ([.ref h, .ref rh, .int at0, .int sg] : List Value).toArray s = true := fun w h => atoms_spec (ws := ws_MO_seal) B.pre w (List.mem_cons_of_mem _ h)
  have hown : s.vm.findClass "BootChainModel" = some m.cls := findClass_of_methodNamed B.named
  have hlocks := B.notSynchronized
  subst hsz
  have hD := hD0.self (sz := s.heap.size)
  generalize hAe : va_A [(h, .inr (5, [.int th, .ref af, .ref ak, .ref ar, .ref ag, .int le, .int lo, .int da, .ref ad, .ref ac, .ref ab, .int si, .ref ax, .ref aw, .ref an, .ref av, .ref aa])), (ac, .inl (cJ, 64, .inr (.inl kc))), (ab, .inl (cJ, 8, .inr (.inl bg))), (ax, .inl (cJ, 48, .inr (.inl tx))), (aw, .inl (cJ, 64, .inr (.inl wi))), (an, .inl (cJ, 8, .inr (.inl nw))), (av, .inl (cJ, 8, .inr (.inl vv))), (aa, .inl (cI, 8, .inl aw_)), (rh, .inl (cI, N, .inl rr))] s.heap.size = A at hD hE ⊢
  have hA : ∀ q : Nat, s.heap.size ≤ q → A q := fun q h => by rw [← hAe]; exact Or.inr h
  have hS : va_S A s.heap s.heap [] := va_S.rf
  have hl := lv_entry ([.ref h, .ref rh, .int at0, .int sg]) (n := 4) (Nat.le_of_ble_eq_true rfl)
  rw [lg_entry_eq]
  generalize (lg_sl ([.ref h, .ref rh, .int at0, .int sg]) ++ List.replicate (4 - (lg_sl ([.ref h, .ref rh, .int at0, .int sg])).length) Slot.unset).toArray = ls at hl ⊢
  have hl : lv_has ls 4 [(0, .ref h), (1, .ref rh), (2, .int at0), (3, .int sg)] := hl
  refine lv_aload_n hx hb d_MO_seal_0 rfl (lv_at hl 0 rfl) ?_
  refine lv_iconst (v := 1) hx hb d_MO_seal_1 (by decide) ?_
  refine lv_iconst (v := 4) hx hb d_MO_seal_2 (by decide) ?_
  refine lv_iload_n hx hb d_MO_seal_3 rfl (lv_at hl 3 rfl) ?_
  refine lv_imul hx hb d_MO_seal_4 ?_
  refine lv_iadd hx hb d_MO_seal_5 ?_
  refine lv_iconst (v := 4) hx hb d_MO_seal_6 (by decide) ?_
  have hPc := hP.sub (ws' := [(h, .inr (5, [.int th, .ref af, .ref ak, .ref ar, .ref ag, .int le, .int lo, .int da, .ref ad, .ref ac, .ref ab, .int si, .ref ax, .ref aw, .ref an, .ref av, .ref aa])), (ax, .inl (cJ, 48, .inr (.inl tx)))]) [0, 3] rfl
  have hDc := hD.sub (ws' := [(h, .inr (5, [.int th, .ref af, .ref ak, .ref ar, .ref ag, .int le, .int lo, .int da, .ref ad, .ref ac, .ref ab, .int si, .ref ax, .ref aw, .ref an, .ref av, .ref aa])), (ax, .inl (cJ, 48, .inr (.inl tx)))]) [0, 3] (by decide) rfl
  have hFc := va_free (wc := [(h, .inr (5, [.int th, .ref af, .ref ak, .ref ar, .ref ag, .int le, .int lo, .int da, .ref ad, .ref ac, .ref ab, .int si, .ref ax, .ref aw, .ref an, .ref av, .ref aa])), (ax, .inl (cJ, 48, .inr (.inl tx)))]) hD hS hA [0, 3] rfl
  refine va_callv (va_runV (As := [.int ((1 : Int32) + ((4 : Int32) * sg)), .int (4 : Int32)]) (rest := []) ⟨hx, hb, hml, hown, hts⟩ (c_MO_addCount l dC dI cI cJ h af ak ar ag ad ac ab ax aw an av aa _ ((1 : Int32) + ((4 : Int32) * sg)) (4 : Int32) th le lo da si tx (ad_of (k := 0) hsi 4 (by decide))) ⟨callB_of 2 hts (bc_good gw_588) rfl rfl rfl (hts _ gw_6) (hts _ gw_586) (by decide +kernel) ⟨Nat.le_of_ble_eq_true rfl, Nat.le_of_ble_eq_true rfl⟩, (hts _ gw_587), (hts _ gw_710)⟩ ⟨bc_blind, va_recv (q0 := 0) hK hP (q := (R_MO, F_MO, 17)) rfl rfl, fun U hU hW => ⟨rfl, bc_give hPc hDc hK hE hS hFc U hU hW⟩⟩ rfl rfl hl.1 rfl (lv_room (Nat.le_of_ble_eq_true rfl)) d_MO_seal_7 ⟨Nat.le_of_ble_eq_true rfl, Nat.le_of_ble_eq_true rfl⟩) hS (fun q _ h => hFc q h) hFc (fun u t H9 locs ht hvm hp hB hz1 hk1 hS => ?_)
  obtain ⟨hP, hD⟩ := va_join (wr := [(ac, .inl (cJ, 64, .inr (.inl kc))), (ab, .inl (cJ, 8, .inr (.inl bg))), (aw, .inl (cJ, 64, .inr (.inl wi))), (an, .inl (cJ, 8, .inr (.inl nw))), (av, .inl (cJ, 8, .inr (.inl vv))), (aa, .inl (cI, 8, .inl aw_)), (rh, .inl (cI, N, .inl rr))]) (w1 := [(h, .inr (5, [.int th, .ref af, .ref ak, .ref ar, .ref ag, .int le, .int lo, .int da, .ref ad, .ref ac, .ref ab, .int ((f_MO_addCount ((1 : Int32) + ((4 : Int32) * sg)) (4 : Int32) th le lo da si tx).1), .ref ax, .ref aw, .ref an, .ref av, .ref aa])), (ax, .inl (cJ, 48, .inr (.inl ((f_MO_addCount ((1 : Int32) + ((4 : Int32) * sg)) (4 : Int32) th le lo da si tx).2))))]) hP hD [0, 3] [1, 2, 4, 5, 6, 7, 8] rfl rfl (by decide) (by decide) hk1 hFc (ht ▸ hB.1) hB.2.2
  have hP := hP.sub (ws' := [(h, .inr (5, [.int th, .ref af, .ref ak, .ref ar, .ref ag, .int le, .int lo, .int da, .ref ad, .ref ac, .ref ab, .int ((f_MO_addCount ((1 : Int32) + ((4 : Int32) * sg)) (4 : Int32) th le lo da si tx).1), .ref ax, .ref aw, .ref an, .ref av, .ref aa])), (ac, .inl (cJ, 64, .inr (.inl kc))), (ab, .inl (cJ, 8, .inr (.inl bg))), (ax, .inl (cJ, 48, .inr (.inl ((f_MO_addCount ((1 : Int32) + ((4 : Int32) * sg)) (4 : Int32) th le lo da si tx).2)))), (aw, .inl (cJ, 64, .inr (.inl wi))), (an, .inl (cJ, 8, .inr (.inl nw))), (av, .inl (cJ, 8, .inr (.inl vv))), (aa, .inl (cI, 8, .inl aw_)), (rh, .inl (cI, N, .inl rr))]) [7, 0, 1, 8, 2, 3, 4, 5, 6] rfl
  have hD := hD.sub (ws' := [(h, .inr (5, [.int th, .ref af, .ref ak, .ref ar, .ref ag, .int le, .int lo, .int da, .ref ad, .ref ac, .ref ab, .int ((f_MO_addCount ((1 : Int32) + ((4 : Int32) * sg)) (4 : Int32) th le lo da si tx).1), .ref ax, .ref aw, .ref an, .ref av, .ref aa])), (ac, .inl (cJ, 64, .inr (.inl kc))), (ab, .inl (cJ, 8, .inr (.inl bg))), (ax, .inl (cJ, 48, .inr (.inl ((f_MO_addCount ((1 : Int32) + ((4 : Int32) * sg)) (4 : Int32) th le lo da si tx).2)))), (aw, .inl (cJ, 64, .inr (.inl wi))), (an, .inl (cJ, 8, .inr (.inl nw))), (av, .inl (cJ, 8, .inr (.inl vv))), (aa, .inl (cI, 8, .inl aw_)), (rh, .inl (cI, N, .inl rr))]) [7, 0, 1, 8, 2, 3, 4, 5, 6] (by decide) rfl
  generalize H9 = H at hP hS ⊢
  have e0 : (f_MO_seal N at0 sg th le lo da si kc bg tx wi nw vv aw_ rr) = f_MO_seal_c1 N at0 sg th le lo da si kc bg tx wi nw vv aw_ rr (f_MO_addCount ((1 : Int32) + ((4 : Int32) * sg)) (4 : Int32) th le lo da si tx) := by rw [f_MO_seal]
  rw [e0]
  generalize hu1 : (f_MO_addCount ((1 : Int32) + ((4 : Int32) * sg)) (4 : Int32) th le lo da si tx) = u1 at hP hD ⊢
  have hP : va_P (dC, dI) classes [(h, .inr (5, [.int th, .ref af, .ref ak, .ref ar, .ref ag, .int le, .int lo, .int da, .ref ad, .ref ac, .ref ab, .int (u1.1), .ref ax, .ref aw, .ref an, .ref av, .ref aa])), (ac, .inl (cJ, 64, .inr (.inl kc))), (ab, .inl (cJ, 8, .inr (.inl bg))), (ax, .inl (cJ, 48, .inr (.inl (u1.2)))), (aw, .inl (cJ, 64, .inr (.inl wi))), (an, .inl (cJ, 8, .inr (.inl nw))), (av, .inl (cJ, 8, .inr (.inl vv))), (aa, .inl (cI, 8, .inl aw_)), (rh, .inl (cI, N, .inl rr))] H := hP
  have hD : va_D A [(h, .inr (5, [.int th, .ref af, .ref ak, .ref ar, .ref ag, .int le, .int lo, .int da, .ref ad, .ref ac, .ref ab, .int (u1.1), .ref ax, .ref aw, .ref an, .ref av, .ref aa])), (ac, .inl (cJ, 64, .inr (.inl kc))), (ab, .inl (cJ, 8, .inr (.inl bg))), (ax, .inl (cJ, 48, .inr (.inl (u1.2)))), (aw, .inl (cJ, 64, .inr (.inl wi))), (an, .inl (cJ, 8, .inr (.inl nw))), (av, .inl (cJ, 8, .inr (.inl vv))), (aa, .inl (cI, 8, .inl aw_)), (rh, .inl (cI, N, .inl rr))] := hD
  refine lv_aload_n hx hb d_MO_seal_10 rfl (lv_at hl 0 rfl) ?_
  refine lv_aload_n hx hb d_MO_seal_11 rfl (lv_at hl 1 rfl) ?_
  refine lv_iload_n hx hb d_MO_seal_12 rfl (lv_at hl 2 rfl) ?_
  refine lv_bipush (v := 7) hx hb d_MO_seal_13 (by decide) ?_
  have hPc := hP.sub (ws' := [(h, .inr (5, [.int th, .ref af, .ref ak, .ref ar, .ref ag, .int le, .int lo, .int da, .ref ad, .ref ac, .ref ab, .int (u1.1), .ref ax, .ref aw, .ref an, .ref av, .ref aa])), (ax, .inl (cJ, 48, .inr (.inl (u1.2)))), (rh, .inl (cI, N, .inl rr))]) [0, 3, 8] rfl
  have hDc := hD.sub (ws' := [(h, .inr (5, [.int th, .ref af, .ref ak, .ref ar, .ref ag, .int le, .int lo, .int da, .ref ad, .ref ac, .ref ab, .int (u1.1), .ref ax, .ref aw, .ref an, .ref av, .ref aa])), (ax, .inl (cJ, 48, .inr (.inl (u1.2)))), (rh, .inl (cI, N, .inl rr))]) [0, 3, 8] (by decide) rfl
  have hFc := va_free (wc := [(h, .inr (5, [.int th, .ref af, .ref ak, .ref ar, .ref ag, .int le, .int lo, .int da, .ref ad, .ref ac, .ref ab, .int (u1.1), .ref ax, .ref aw, .ref an, .ref av, .ref aa])), (ax, .inl (cJ, 48, .inr (.inl (u1.2)))), (rh, .inl (cI, N, .inl rr))]) hD hS hA [0, 3, 8] rfl
  refine va_callv (va_runV (As := [.ref rh, .int at0, .int (7 : Int32)]) (rest := []) ⟨hx, hb, hml, hown, hts⟩ (c_MO_addFrom l dC dI cI cJ h rh af ak ar ag ad ac ab ax aw an av aa _ N at0 (7 : Int32) th le lo da (u1.1) (u1.2) rr (by rw [← hu1]; exact ad_of (mo_cnt 0 4 hsi (by decide)) 7 (by decide)) hro) ⟨callB_of 3 hts (bc_good gw_642) rfl rfl rfl (hts _ gw_6) (hts _ gw_640) (by decide +kernel) ⟨Nat.le_of_ble_eq_true rfl, Nat.le_of_ble_eq_true rfl⟩, (hts _ gw_641), (hts _ gw_722)⟩ ⟨bc_blind, va_recv (q0 := 0) hK hP (q := (R_MO, F_MO, 17)) rfl rfl, fun U hU hW => ⟨rfl, bc_give hPc hDc hK hE hS hFc U hU hW⟩⟩ rfl rfl hl.1 rfl (lv_room (Nat.le_of_ble_eq_true rfl)) d_MO_seal_15 ⟨Nat.le_of_ble_eq_true rfl, Nat.le_of_ble_eq_true rfl⟩) hS (fun q _ h => hFc q h) hFc (fun u t H9 locs ht hvm hp hB hz1 hk1 hS => ?_)
  obtain ⟨hP, hD⟩ := va_join (wr := [(ac, .inl (cJ, 64, .inr (.inl kc))), (ab, .inl (cJ, 8, .inr (.inl bg))), (aw, .inl (cJ, 64, .inr (.inl wi))), (an, .inl (cJ, 8, .inr (.inl nw))), (av, .inl (cJ, 8, .inr (.inl vv))), (aa, .inl (cI, 8, .inl aw_))]) (w1 := [(h, .inr (5, [.int th, .ref af, .ref ak, .ref ar, .ref ag, .int le, .int lo, .int da, .ref ad, .ref ac, .ref ab, .int ((f_MO_addFrom N at0 (7 : Int32) th le lo da (u1.1) (u1.2) rr).1), .ref ax, .ref aw, .ref an, .ref av, .ref aa])), (ax, .inl (cJ, 48, .inr (.inl ((f_MO_addFrom N at0 (7 : Int32) th le lo da (u1.1) (u1.2) rr).2)))), (rh, .inl (cI, N, .inl rr))]) hP hD [0, 3, 8] [1, 2, 4, 5, 6, 7] rfl rfl (by decide) (by decide) hk1 hFc (ht ▸ hB.1) hB.2.2
  have hP := hP.sub (ws' := [(h, .inr (5, [.int th, .ref af, .ref ak, .ref ar, .ref ag, .int le, .int lo, .int da, .ref ad, .ref ac, .ref ab, .int ((f_MO_addFrom N at0 (7 : Int32) th le lo da (u1.1) (u1.2) rr).1), .ref ax, .ref aw, .ref an, .ref av, .ref aa])), (ac, .inl (cJ, 64, .inr (.inl kc))), (ab, .inl (cJ, 8, .inr (.inl bg))), (ax, .inl (cJ, 48, .inr (.inl ((f_MO_addFrom N at0 (7 : Int32) th le lo da (u1.1) (u1.2) rr).2)))), (aw, .inl (cJ, 64, .inr (.inl wi))), (an, .inl (cJ, 8, .inr (.inl nw))), (av, .inl (cJ, 8, .inr (.inl vv))), (aa, .inl (cI, 8, .inl aw_)), (rh, .inl (cI, N, .inl rr))]) [6, 0, 1, 7, 2, 3, 4, 5, 8] rfl
  have hD := hD.sub (ws' := [(h, .inr (5, [.int th, .ref af, .ref ak, .ref ar, .ref ag, .int le, .int lo, .int da, .ref ad, .ref ac, .ref ab, .int ((f_MO_addFrom N at0 (7 : Int32) th le lo da (u1.1) (u1.2) rr).1), .ref ax, .ref aw, .ref an, .ref av, .ref aa])), (ac, .inl (cJ, 64, .inr (.inl kc))), (ab, .inl (cJ, 8, .inr (.inl bg))), (ax, .inl (cJ, 48, .inr (.inl ((f_MO_addFrom N at0 (7 : Int32) th le lo da (u1.1) (u1.2) rr).2)))), (aw, .inl (cJ, 64, .inr (.inl wi))), (an, .inl (cJ, 8, .inr (.inl nw))), (av, .inl (cJ, 8, .inr (.inl vv))), (aa, .inl (cI, 8, .inl aw_)), (rh, .inl (cI, N, .inl rr))]) [6, 0, 1, 7, 2, 3, 4, 5, 8] (by decide) rfl
  generalize H9 = H at hP hS ⊢
  have e0 : (f_MO_seal_c1 N at0 sg th le lo da si kc bg tx wi nw vv aw_ rr u1) = f_MO_seal_c2 N at0 sg th le lo da si kc bg tx wi nw vv aw_ rr u1 (f_MO_addFrom N at0 (7 : Int32) th le lo da (u1.1) (u1.2) rr) := by rw [f_MO_seal_c1]
  rw [e0]
  generalize hu2 : (f_MO_addFrom N at0 (7 : Int32) th le lo da (u1.1) (u1.2) rr) = u2 at hP hD ⊢
  have hP : va_P (dC, dI) classes [(h, .inr (5, [.int th, .ref af, .ref ak, .ref ar, .ref ag, .int le, .int lo, .int da, .ref ad, .ref ac, .ref ab, .int (u2.1), .ref ax, .ref aw, .ref an, .ref av, .ref aa])), (ac, .inl (cJ, 64, .inr (.inl kc))), (ab, .inl (cJ, 8, .inr (.inl bg))), (ax, .inl (cJ, 48, .inr (.inl (u2.2)))), (aw, .inl (cJ, 64, .inr (.inl wi))), (an, .inl (cJ, 8, .inr (.inl nw))), (av, .inl (cJ, 8, .inr (.inl vv))), (aa, .inl (cI, 8, .inl aw_)), (rh, .inl (cI, N, .inl rr))] H := hP
  have hD : va_D A [(h, .inr (5, [.int th, .ref af, .ref ak, .ref ar, .ref ag, .int le, .int lo, .int da, .ref ad, .ref ac, .ref ab, .int (u2.1), .ref ax, .ref aw, .ref an, .ref av, .ref aa])), (ac, .inl (cJ, 64, .inr (.inl kc))), (ab, .inl (cJ, 8, .inr (.inl bg))), (ax, .inl (cJ, 48, .inr (.inl (u2.2)))), (aw, .inl (cJ, 64, .inr (.inl wi))), (an, .inl (cJ, 8, .inr (.inl nw))), (av, .inl (cJ, 8, .inr (.inl vv))), (aa, .inl (cI, 8, .inl aw_)), (rh, .inl (cI, N, .inl rr))] := hD
  refine lv_aload_n hx hb d_MO_seal_18 rfl (lv_at hl 0 rfl) ?_
  refine lv_iconst (v := 1) hx hb d_MO_seal_19 (by decide) ?_
  refine lv_iconst (v := 4) hx hb d_MO_seal_20 (by decide) ?_
  refine lv_iload_n hx hb d_MO_seal_21 rfl (lv_at hl 3 rfl) ?_
  refine lv_imul hx hb d_MO_seal_22 ?_
  refine lv_iadd hx hb d_MO_seal_23 ?_
  refine lv_iconst (v := 4) hx hb d_MO_seal_24 (by decide) ?_
  have hPc := hP.sub (ws' := [(h, .inr (5, [.int th, .ref af, .ref ak, .ref ar, .ref ag, .int le, .int lo, .int da, .ref ad, .ref ac, .ref ab, .int (u2.1), .ref ax, .ref aw, .ref an, .ref av, .ref aa])), (ax, .inl (cJ, 48, .inr (.inl (u2.2))))]) [0, 3] rfl
  have hDc := hD.sub (ws' := [(h, .inr (5, [.int th, .ref af, .ref ak, .ref ar, .ref ag, .int le, .int lo, .int da, .ref ad, .ref ac, .ref ab, .int (u2.1), .ref ax, .ref aw, .ref an, .ref av, .ref aa])), (ax, .inl (cJ, 48, .inr (.inl (u2.2))))]) [0, 3] (by decide) rfl
  have hFc := va_free (wc := [(h, .inr (5, [.int th, .ref af, .ref ak, .ref ar, .ref ag, .int le, .int lo, .int da, .ref ad, .ref ac, .ref ab, .int (u2.1), .ref ax, .ref aw, .ref an, .ref av, .ref aa])), (ax, .inl (cJ, 48, .inr (.inl (u2.2))))]) hD hS hA [0, 3] rfl
  refine va_callv (va_runV (As := [.int ((1 : Int32) + ((4 : Int32) * sg)), .int (4 : Int32)]) (rest := []) ⟨hx, hb, hml, hown, hts⟩ (c_MO_addCount l dC dI cI cJ h af ak ar ag ad ac ab ax aw an av aa _ ((1 : Int32) + ((4 : Int32) * sg)) (4 : Int32) th le lo da (u2.1) (u2.2) (by rw [← hu2]; exact ad_of (mo_row 4 7 (by rw [← hu1]; exact mo_cnt 0 4 hsi (by decide)) (by decide)) 4 (by decide))) ⟨callB_of 2 hts (bc_good gw_588) rfl rfl rfl (hts _ gw_6) (hts _ gw_586) (by decide +kernel) ⟨Nat.le_of_ble_eq_true rfl, Nat.le_of_ble_eq_true rfl⟩, (hts _ gw_587), (hts _ gw_710)⟩ ⟨bc_blind, va_recv (q0 := 0) hK hP (q := (R_MO, F_MO, 17)) rfl rfl, fun U hU hW => ⟨rfl, bc_give hPc hDc hK hE hS hFc U hU hW⟩⟩ rfl rfl hl.1 rfl (lv_room (Nat.le_of_ble_eq_true rfl)) d_MO_seal_25 ⟨Nat.le_of_ble_eq_true rfl, Nat.le_of_ble_eq_true rfl⟩) hS (fun q _ h => hFc q h) hFc (fun u t H9 locs ht hvm hp hB hz1 hk1 hS => ?_)
  obtain ⟨hP, hD⟩ := va_join (wr := [(ac, .inl (cJ, 64, .inr (.inl kc))), (ab, .inl (cJ, 8, .inr (.inl bg))), (aw, .inl (cJ, 64, .inr (.inl wi))), (an, .inl (cJ, 8, .inr (.inl nw))), (av, .inl (cJ, 8, .inr (.inl vv))), (aa, .inl (cI, 8, .inl aw_)), (rh, .inl (cI, N, .inl rr))]) (w1 := [(h, .inr (5, [.int th, .ref af, .ref ak, .ref ar, .ref ag, .int le, .int lo, .int da, .ref ad, .ref ac, .ref ab, .int ((f_MO_addCount ((1 : Int32) + ((4 : Int32) * sg)) (4 : Int32) th le lo da (u2.1) (u2.2)).1), .ref ax, .ref aw, .ref an, .ref av, .ref aa])), (ax, .inl (cJ, 48, .inr (.inl ((f_MO_addCount ((1 : Int32) + ((4 : Int32) * sg)) (4 : Int32) th le lo da (u2.1) (u2.2)).2))))]) hP hD [0, 3] [1, 2, 4, 5, 6, 7, 8] rfl rfl (by decide) (by decide) hk1 hFc (ht ▸ hB.1) hB.2.2
  have hP := hP.sub (ws' := [(h, .inr (5, [.int th, .ref af, .ref ak, .ref ar, .ref ag, .int le, .int lo, .int da, .ref ad, .ref ac, .ref ab, .int ((f_MO_addCount ((1 : Int32) + ((4 : Int32) * sg)) (4 : Int32) th le lo da (u2.1) (u2.2)).1), .ref ax, .ref aw, .ref an, .ref av, .ref aa])), (ac, .inl (cJ, 64, .inr (.inl kc))), (ab, .inl (cJ, 8, .inr (.inl bg))), (ax, .inl (cJ, 48, .inr (.inl ((f_MO_addCount ((1 : Int32) + ((4 : Int32) * sg)) (4 : Int32) th le lo da (u2.1) (u2.2)).2)))), (aw, .inl (cJ, 64, .inr (.inl wi))), (an, .inl (cJ, 8, .inr (.inl nw))), (av, .inl (cJ, 8, .inr (.inl vv))), (aa, .inl (cI, 8, .inl aw_)), (rh, .inl (cI, N, .inl rr))]) [7, 0, 1, 8, 2, 3, 4, 5, 6] rfl
  have hD := hD.sub (ws' := [(h, .inr (5, [.int th, .ref af, .ref ak, .ref ar, .ref ag, .int le, .int lo, .int da, .ref ad, .ref ac, .ref ab, .int ((f_MO_addCount ((1 : Int32) + ((4 : Int32) * sg)) (4 : Int32) th le lo da (u2.1) (u2.2)).1), .ref ax, .ref aw, .ref an, .ref av, .ref aa])), (ac, .inl (cJ, 64, .inr (.inl kc))), (ab, .inl (cJ, 8, .inr (.inl bg))), (ax, .inl (cJ, 48, .inr (.inl ((f_MO_addCount ((1 : Int32) + ((4 : Int32) * sg)) (4 : Int32) th le lo da (u2.1) (u2.2)).2)))), (aw, .inl (cJ, 64, .inr (.inl wi))), (an, .inl (cJ, 8, .inr (.inl nw))), (av, .inl (cJ, 8, .inr (.inl vv))), (aa, .inl (cI, 8, .inl aw_)), (rh, .inl (cI, N, .inl rr))]) [7, 0, 1, 8, 2, 3, 4, 5, 6] (by decide) rfl
  generalize H9 = H at hP hS ⊢
  have e0 : (f_MO_seal_c2 N at0 sg th le lo da si kc bg tx wi nw vv aw_ rr u1 u2) = f_MO_seal_c3 N at0 sg th le lo da si kc bg tx wi nw vv aw_ rr u1 u2 (f_MO_addCount ((1 : Int32) + ((4 : Int32) * sg)) (4 : Int32) th le lo da (u2.1) (u2.2)) := by rw [f_MO_seal_c2]
  rw [e0]
  generalize hu3 : (f_MO_addCount ((1 : Int32) + ((4 : Int32) * sg)) (4 : Int32) th le lo da (u2.1) (u2.2)) = u3 at hP hD ⊢
  have hP : va_P (dC, dI) classes [(h, .inr (5, [.int th, .ref af, .ref ak, .ref ar, .ref ag, .int le, .int lo, .int da, .ref ad, .ref ac, .ref ab, .int (u3.1), .ref ax, .ref aw, .ref an, .ref av, .ref aa])), (ac, .inl (cJ, 64, .inr (.inl kc))), (ab, .inl (cJ, 8, .inr (.inl bg))), (ax, .inl (cJ, 48, .inr (.inl (u3.2)))), (aw, .inl (cJ, 64, .inr (.inl wi))), (an, .inl (cJ, 8, .inr (.inl nw))), (av, .inl (cJ, 8, .inr (.inl vv))), (aa, .inl (cI, 8, .inl aw_)), (rh, .inl (cI, N, .inl rr))] H := hP
  have hD : va_D A [(h, .inr (5, [.int th, .ref af, .ref ak, .ref ar, .ref ag, .int le, .int lo, .int da, .ref ad, .ref ac, .ref ab, .int (u3.1), .ref ax, .ref aw, .ref an, .ref av, .ref aa])), (ac, .inl (cJ, 64, .inr (.inl kc))), (ab, .inl (cJ, 8, .inr (.inl bg))), (ax, .inl (cJ, 48, .inr (.inl (u3.2)))), (aw, .inl (cJ, 64, .inr (.inl wi))), (an, .inl (cJ, 8, .inr (.inl nw))), (av, .inl (cJ, 8, .inr (.inl vv))), (aa, .inl (cI, 8, .inl aw_)), (rh, .inl (cI, N, .inl rr))] := hD
  refine lv_aload_n hx hb d_MO_seal_28 rfl (lv_at hl 0 rfl) ?_
  have hPc := hP.sub (ws' := [(h, .inr (5, [.int th, .ref af, .ref ak, .ref ar, .ref ag, .int le, .int lo, .int da, .ref ad, .ref ac, .ref ab, .int (u3.1), .ref ax, .ref aw, .ref an, .ref av, .ref aa])), (ac, .inl (cJ, 64, .inr (.inl kc))), (ab, .inl (cJ, 8, .inr (.inl bg))), (ax, .inl (cJ, 48, .inr (.inl (u3.2)))), (aw, .inl (cJ, 64, .inr (.inl wi))), (an, .inl (cJ, 8, .inr (.inl nw))), (av, .inl (cJ, 8, .inr (.inl vv))), (aa, .inl (cI, 8, .inl aw_))]) [0, 1, 2, 3, 4, 5, 6, 7] rfl
  have hDc := hD.sub (ws' := [(h, .inr (5, [.int th, .ref af, .ref ak, .ref ar, .ref ag, .int le, .int lo, .int da, .ref ad, .ref ac, .ref ab, .int (u3.1), .ref ax, .ref aw, .ref an, .ref av, .ref aa])), (ac, .inl (cJ, 64, .inr (.inl kc))), (ab, .inl (cJ, 8, .inr (.inl bg))), (ax, .inl (cJ, 48, .inr (.inl (u3.2)))), (aw, .inl (cJ, 64, .inr (.inl wi))), (an, .inl (cJ, 8, .inr (.inl nw))), (av, .inl (cJ, 8, .inr (.inl vv))), (aa, .inl (cI, 8, .inl aw_))]) [0, 1, 2, 3, 4, 5, 6, 7] (by decide) rfl
  have hFc := va_free (wc := [(h, .inr (5, [.int th, .ref af, .ref ak, .ref ar, .ref ag, .int le, .int lo, .int da, .ref ad, .ref ac, .ref ab, .int (u3.1), .ref ax, .ref aw, .ref an, .ref av, .ref aa])), (ac, .inl (cJ, 64, .inr (.inl kc))), (ab, .inl (cJ, 8, .inr (.inl bg))), (ax, .inl (cJ, 48, .inr (.inl (u3.2)))), (aw, .inl (cJ, 64, .inr (.inl wi))), (an, .inl (cJ, 8, .inr (.inl nw))), (av, .inl (cJ, 8, .inr (.inl vv))), (aa, .inl (cI, 8, .inl aw_))]) hD hS hA [0, 1, 2, 3, 4, 5, 6, 7] rfl
  refine va_callv (va_runV (As := []) (rest := []) ⟨hx, hb, hml, hown, hts⟩ (c_MO_hashText l dC dI cI cJ h af ak ar ag ad ac ab ax aw an av aa _ th le lo da (u3.1) kc bg (u3.2) wi nw vv aw_ (by rw [← hu3]; exact sz_ok (mo_cnt 11 4 (by rw [← hu2]; exact mo_row 4 7 (by rw [← hu1]; exact mo_cnt 0 4 hsi (by decide)) (by decide)) (by decide)) (by decide))) ⟨callB_of 0 hts (bc_good gw_601) rfl rfl rfl (hts _ gw_6) (hts _ gw_599) (by decide +kernel) ⟨Nat.le_of_ble_eq_true rfl, Nat.le_of_ble_eq_true rfl⟩, (hts _ gw_600), (hts _ gw_714)⟩ ⟨bc_blind, va_recv (q0 := 0) hK hP (q := (R_MO, F_MO, 17)) rfl rfl, fun U hU hW => ⟨rfl, bc_give hPc hDc hK hE hS hFc U hU hW⟩⟩ rfl rfl hl.1 rfl (lv_room (Nat.le_of_ble_eq_true rfl)) d_MO_seal_29 ⟨Nat.le_of_ble_eq_true rfl, Nat.le_of_ble_eq_true rfl⟩) hS (fun q _ h => hFc q h) hFc (fun u t H9 locs ht hvm hp hB hz1 hk1 hS => ?_)
  obtain ⟨hP, hD⟩ := va_join (wr := [(rh, .inl (cI, N, .inl rr))]) (w1 := [(h, .inr (5, [.int th, .ref af, .ref ak, .ref ar, .ref ag, .int le, .int lo, .int da, .ref ad, .ref ac, .ref ab, .int ((f_MO_hashText th le lo da (u3.1) kc bg (u3.2) wi nw vv aw_).1), .ref ax, .ref aw, .ref an, .ref av, .ref aa])), (ac, .inl (cJ, 64, .inr (.inl kc))), (ab, .inl (cJ, 8, .inr (.inl bg))), (ax, .inl (cJ, 48, .inr (.inl ((f_MO_hashText th le lo da (u3.1) kc bg (u3.2) wi nw vv aw_).2.1)))), (aw, .inl (cJ, 64, .inr (.inl ((f_MO_hashText th le lo da (u3.1) kc bg (u3.2) wi nw vv aw_).2.2.1)))), (an, .inl (cJ, 8, .inr (.inl ((f_MO_hashText th le lo da (u3.1) kc bg (u3.2) wi nw vv aw_).2.2.2.1)))), (av, .inl (cJ, 8, .inr (.inl ((f_MO_hashText th le lo da (u3.1) kc bg (u3.2) wi nw vv aw_).2.2.2.2.1)))), (aa, .inl (cI, 8, .inl ((f_MO_hashText th le lo da (u3.1) kc bg (u3.2) wi nw vv aw_).2.2.2.2.2)))]) hP hD [0, 1, 2, 3, 4, 5, 6, 7] [8] rfl rfl (by decide) (by decide) hk1 hFc (ht ▸ hB.1) hB.2.2
  have hP := hP.sub (ws' := [(h, .inr (5, [.int th, .ref af, .ref ak, .ref ar, .ref ag, .int le, .int lo, .int da, .ref ad, .ref ac, .ref ab, .int ((f_MO_hashText th le lo da (u3.1) kc bg (u3.2) wi nw vv aw_).1), .ref ax, .ref aw, .ref an, .ref av, .ref aa])), (ac, .inl (cJ, 64, .inr (.inl kc))), (ab, .inl (cJ, 8, .inr (.inl bg))), (ax, .inl (cJ, 48, .inr (.inl ((f_MO_hashText th le lo da (u3.1) kc bg (u3.2) wi nw vv aw_).2.1)))), (aw, .inl (cJ, 64, .inr (.inl ((f_MO_hashText th le lo da (u3.1) kc bg (u3.2) wi nw vv aw_).2.2.1)))), (an, .inl (cJ, 8, .inr (.inl ((f_MO_hashText th le lo da (u3.1) kc bg (u3.2) wi nw vv aw_).2.2.2.1)))), (av, .inl (cJ, 8, .inr (.inl ((f_MO_hashText th le lo da (u3.1) kc bg (u3.2) wi nw vv aw_).2.2.2.2.1)))), (aa, .inl (cI, 8, .inl ((f_MO_hashText th le lo da (u3.1) kc bg (u3.2) wi nw vv aw_).2.2.2.2.2))), (rh, .inl (cI, N, .inl rr))]) [1, 2, 3, 4, 5, 6, 7, 8, 0] rfl
  have hD := hD.sub (ws' := [(h, .inr (5, [.int th, .ref af, .ref ak, .ref ar, .ref ag, .int le, .int lo, .int da, .ref ad, .ref ac, .ref ab, .int ((f_MO_hashText th le lo da (u3.1) kc bg (u3.2) wi nw vv aw_).1), .ref ax, .ref aw, .ref an, .ref av, .ref aa])), (ac, .inl (cJ, 64, .inr (.inl kc))), (ab, .inl (cJ, 8, .inr (.inl bg))), (ax, .inl (cJ, 48, .inr (.inl ((f_MO_hashText th le lo da (u3.1) kc bg (u3.2) wi nw vv aw_).2.1)))), (aw, .inl (cJ, 64, .inr (.inl ((f_MO_hashText th le lo da (u3.1) kc bg (u3.2) wi nw vv aw_).2.2.1)))), (an, .inl (cJ, 8, .inr (.inl ((f_MO_hashText th le lo da (u3.1) kc bg (u3.2) wi nw vv aw_).2.2.2.1)))), (av, .inl (cJ, 8, .inr (.inl ((f_MO_hashText th le lo da (u3.1) kc bg (u3.2) wi nw vv aw_).2.2.2.2.1)))), (aa, .inl (cI, 8, .inl ((f_MO_hashText th le lo da (u3.1) kc bg (u3.2) wi nw vv aw_).2.2.2.2.2))), (rh, .inl (cI, N, .inl rr))]) [1, 2, 3, 4, 5, 6, 7, 8, 0] (by decide) rfl
  generalize H9 = H at hP hS ⊢
  have e0 : (f_MO_seal_c3 N at0 sg th le lo da si kc bg tx wi nw vv aw_ rr u1 u2 u3) = f_MO_seal_c4 N at0 sg th le lo da si kc bg tx wi nw vv aw_ rr u1 u2 u3 (f_MO_hashText th le lo da (u3.1) kc bg (u3.2) wi nw vv aw_) := by rw [f_MO_seal_c3]
  rw [e0]
  generalize hu4 : (f_MO_hashText th le lo da (u3.1) kc bg (u3.2) wi nw vv aw_) = u4 at hP hD ⊢
  have hP : va_P (dC, dI) classes [(h, .inr (5, [.int th, .ref af, .ref ak, .ref ar, .ref ag, .int le, .int lo, .int da, .ref ad, .ref ac, .ref ab, .int (u4.1), .ref ax, .ref aw, .ref an, .ref av, .ref aa])), (ac, .inl (cJ, 64, .inr (.inl kc))), (ab, .inl (cJ, 8, .inr (.inl bg))), (ax, .inl (cJ, 48, .inr (.inl (u4.2.1)))), (aw, .inl (cJ, 64, .inr (.inl (u4.2.2.1)))), (an, .inl (cJ, 8, .inr (.inl (u4.2.2.2.1)))), (av, .inl (cJ, 8, .inr (.inl (u4.2.2.2.2.1)))), (aa, .inl (cI, 8, .inl (u4.2.2.2.2.2))), (rh, .inl (cI, N, .inl rr))] H := hP
  have hD : va_D A [(h, .inr (5, [.int th, .ref af, .ref ak, .ref ar, .ref ag, .int le, .int lo, .int da, .ref ad, .ref ac, .ref ab, .int (u4.1), .ref ax, .ref aw, .ref an, .ref av, .ref aa])), (ac, .inl (cJ, 64, .inr (.inl kc))), (ab, .inl (cJ, 8, .inr (.inl bg))), (ax, .inl (cJ, 48, .inr (.inl (u4.2.1)))), (aw, .inl (cJ, 64, .inr (.inl (u4.2.2.1)))), (an, .inl (cJ, 8, .inr (.inl (u4.2.2.2.1)))), (av, .inl (cJ, 8, .inr (.inl (u4.2.2.2.2.1)))), (aa, .inl (cI, 8, .inl (u4.2.2.2.2.2))), (rh, .inl (cI, N, .inl rr))] := hD
  have e0 : (f_MO_seal_c4 N at0 sg th le lo da si kc bg tx wi nw vv aw_ rr u1 u2 u3 u4) = ((u4.1), (u4.2.1), (u4.2.2.1), (u4.2.2.2.1), (u4.2.2.2.2.1), (u4.2.2.2.2.2)) := by rw [f_MO_seal_c4]
  rw [e0]
  exact W.vret hx hb hr (fun t ht hW => ⟨⟨(), rfl, trivial, by rw [ht]; exact hP, va_K.moved hW.alike hK, hD⟩, hS.F ht⟩) hS.2.2 d_MO_seal_32
-- MO_fold
theorem d_MO_fold_0 : decode prog_8_method_27_code 0 = .ok (.aload_n 0, 1) := by decide +kernel
theorem d_MO_fold_1 : decode prog_8_method_27_code 1 = .ok (.aload_n 0, 1) := by decide +kernel
theorem d_MO_fold_2 : decode prog_8_method_27_code 2 = .ok (.getfield 7, 3) := by decide +kernel
theorem d_MO_fold_5 : decode prog_8_method_27_code 5 = .ok (.bipush 16, 2) := by decide +kernel
theorem d_MO_fold_7 : decode prog_8_method_27_code 7 = .ok (.iload_n 2, 1) := by decide +kernel
theorem d_MO_fold_8 : decode prog_8_method_27_code 8 = .ok (.imul, 1) := by decide +kernel
theorem d_MO_fold_9 : decode prog_8_method_27_code 9 = .ok (.bipush 7, 2) := by decide +kernel
theorem d_MO_fold_11 : decode prog_8_method_27_code 11 = .ok (.invokevirtual 236, 3) := by decide +kernel
theorem d_MO_fold_14 : decode prog_8_method_27_code 14 = .ok (.aload_n 0, 1) := by decide +kernel
theorem d_MO_fold_15 : decode prog_8_method_27_code 15 = .ok (.invokevirtual 240, 3) := by decide +kernel
theorem d_MO_fold_18 : decode prog_8_method_27_code 18 = .ok (.aload_n 0, 1) := by decide +kernel
theorem d_MO_fold_19 : decode prog_8_method_27_code 19 = .ok (.aload_n 0, 1) := by decide +kernel
theorem d_MO_fold_20 : decode prog_8_method_27_code 20 = .ok (.getfield 19, 3) := by decide +kernel
theorem d_MO_fold_23 : decode prog_8_method_27_code 23 = .ok (.bipush 8, 2) := by decide +kernel
theorem d_MO_fold_25 : decode prog_8_method_27_code 25 = .ok (.iload_n 1, 1) := by decide +kernel
theorem d_MO_fold_26 : decode prog_8_method_27_code 26 = .ok (.imul, 1) := by decide +kernel
theorem d_MO_fold_27 : decode prog_8_method_27_code 27 = .ok (.bipush 8, 2) := by decide +kernel
theorem d_MO_fold_29 : decode prog_8_method_27_code 29 = .ok (.invokevirtual 236, 3) := by decide +kernel
theorem d_MO_fold_32 : decode prog_8_method_27_code 32 = .ok (.aload_n 0, 1) := by decide +kernel
theorem d_MO_fold_33 : decode prog_8_method_27_code 33 = .ok (.aload_n 0, 1) := by decide +kernel
theorem d_MO_fold_34 : decode prog_8_method_27_code 34 = .ok (.getfield 48, 3) := by decide +kernel
theorem d_MO_fold_37 : decode prog_8_method_27_code 37 = .ok (.iconst 0, 1) := by decide +kernel
theorem d_MO_fold_38 : decode prog_8_method_27_code 38 = .ok (.bipush 8, 2) := by decide +kernel
theorem d_MO_fold_40 : decode prog_8_method_27_code 40 = .ok (.invokevirtual 236, 3) := by decide +kernel
theorem d_MO_fold_43 : decode prog_8_method_27_code 43 = .ok (.aload_n 0, 1) := by decide +kernel
theorem d_MO_fold_44 : decode prog_8_method_27_code 44 = .ok (.invokevirtual 240, 3) := by decide +kernel
theorem d_MO_fold_47 : decode prog_8_method_27_code 47 = .ok (.iconst 0, 1) := by decide +kernel
theorem d_MO_fold_48 : decode prog_8_method_27_code 48 = .ok (.istore_n 3, 1) := by decide +kernel
theorem d_MO_fold_49 : decode prog_8_method_27_code 49 = .ok (.iload_n 3, 1) := by decide +kernel
theorem d_MO_fold_50 : decode prog_8_method_27_code 50 = .ok (.bipush 8, 2) := by decide +kernel
theorem d_MO_fold_52 : decode prog_8_method_27_code 52 = .ok (.if_icmp .ge 26, 3) := by decide +kernel
theorem d_MO_fold_55 : decode prog_8_method_27_code 55 = .ok (.aload_n 0, 1) := by decide +kernel
theorem d_MO_fold_56 : decode prog_8_method_27_code 56 = .ok (.getfield 19, 3) := by decide +kernel
theorem d_MO_fold_59 : decode prog_8_method_27_code 59 = .ok (.bipush 8, 2) := by decide +kernel
theorem d_MO_fold_61 : decode prog_8_method_27_code 61 = .ok (.iload_n 1, 1) := by decide +kernel
theorem d_MO_fold_62 : decode prog_8_method_27_code 62 = .ok (.imul, 1) := by decide +kernel
theorem d_MO_fold_63 : decode prog_8_method_27_code 63 = .ok (.iload_n 3, 1) := by decide +kernel
theorem d_MO_fold_64 : decode prog_8_method_27_code 64 = .ok (.iadd, 1) := by decide +kernel
theorem d_MO_fold_65 : decode prog_8_method_27_code 65 = .ok (.aload_n 0, 1) := by decide +kernel
theorem d_MO_fold_66 : decode prog_8_method_27_code 66 = .ok (.getfield 48, 3) := by decide +kernel
theorem d_MO_fold_69 : decode prog_8_method_27_code 69 = .ok (.iload_n 3, 1) := by decide +kernel
theorem d_MO_fold_70 : decode prog_8_method_27_code 70 = .ok (.iaload, 1) := by decide +kernel
theorem d_MO_fold_71 : decode prog_8_method_27_code 71 = .ok (.iastore, 1) := by decide +kernel
theorem d_MO_fold_72 : decode prog_8_method_27_code 72 = .ok (.iinc 3 1, 3) := by decide +kernel
theorem d_MO_fold_75 : decode prog_8_method_27_code 75 = .ok (.goto (-26), 3) := by decide +kernel
theorem d_MO_fold_78 : decode prog_8_method_27_code 78 = .ok (.return_, 1) := by decide +kernel
def y_MO_fold : MethodName := ⟨"BootChainModel", "fold", "(II)V"⟩
def ws_MO_fold : List Cond := .code y_MO_fold prog_8_method_27_code 4 none :: bc_G
def f_MO_fold_49 (sg : Int32) (so : Int32) (th : Int32) (le : Int32) (lo : Int32) (da : Int32) (si : Int32) (kc : Nat → Int64) (bg : Nat → Int64) (tx : Nat → Int64) (wi : Nat → Int64) (nw : Nat → Int64) (vv : Nat → Int64) (aw_ : Nat → Int32) (fl : Nat → Int32) (rg : Nat → Int32) : Nat → Int32 → Int32 → (Nat → Int64) → (Nat → Int64) → (Nat → Int64) → (Nat → Int64) → (Nat → Int32) → (Nat → Int32) → Int32 × (Nat → Int64) × (Nat → Int64) × (Nat → Int64) × (Nat → Int64) × (Nat → Int32) × (Nat → Int32)
  | 0, x3, y0_11, y3, y4, y5, y6, y7, y9 => (y0_11, y3, y4, y5, y6, y7, y9)
  | n + 1, x3, y0_11, y3, y4, y5, y6, y7, y9 => if (8 : Int32) ≤ x3 then (y0_11, y3, y4, y5, y6, y7, y9) else f_MO_fold_49 sg so th le lo da si kc bg tx wi nw vv aw_ fl rg n (x3 + (1 : Int32)) y0_11 y3 y4 y5 y6 y7 (upd y9 ((((8 : Int32) * sg) + x3)).toNatClampNeg (y7 (x3).toNatClampNeg))
def f_MO_fold_c5 (sg : Int32) (so : Int32) (th : Int32) (le : Int32) (lo : Int32) (da : Int32) (si : Int32) (kc : Nat → Int64) (bg : Nat → Int64) (tx : Nat → Int64) (wi : Nat → Int64) (nw : Nat → Int64) (vv : Nat → Int64) (aw_ : Nat → Int32) (fl : Nat → Int32) (rg : Nat → Int32) (u1 : Int32 × (Nat → Int64)) (u2 : Int32 × (Nat → Int64) × (Nat → Int64) × (Nat → Int64) × (Nat → Int64) × (Nat → Int32)) (u3 : Int32 × (Nat → Int64)) (u4 : Int32 × (Nat → Int64)) (u5 : Int32 × (Nat → Int64) × (Nat → Int64) × (Nat → Int64) × (Nat → Int64) × (Nat → Int32)) : Int32 × (Nat → Int64) × (Nat → Int64) × (Nat → Int64) × (Nat → Int64) × (Nat → Int32) × (Nat → Int32) := f_MO_fold_49 sg so th le lo da si kc bg tx wi nw vv aw_ fl rg 9 (0 : Int32) (u5.1) (u5.2.1) (u5.2.2.1) (u5.2.2.2.1) (u5.2.2.2.2.1) (u5.2.2.2.2.2) rg
def f_MO_fold_c4 (sg : Int32) (so : Int32) (th : Int32) (le : Int32) (lo : Int32) (da : Int32) (si : Int32) (kc : Nat → Int64) (bg : Nat → Int64) (tx : Nat → Int64) (wi : Nat → Int64) (nw : Nat → Int64) (vv : Nat → Int64) (aw_ : Nat → Int32) (fl : Nat → Int32) (rg : Nat → Int32) (u1 : Int32 × (Nat → Int64)) (u2 : Int32 × (Nat → Int64) × (Nat → Int64) × (Nat → Int64) × (Nat → Int64) × (Nat → Int32)) (u3 : Int32 × (Nat → Int64)) (u4 : Int32 × (Nat → Int64)) : Int32 × (Nat → Int64) × (Nat → Int64) × (Nat → Int64) × (Nat → Int64) × (Nat → Int32) × (Nat → Int32) := f_MO_fold_c5 sg so th le lo da si kc bg tx wi nw vv aw_ fl rg u1 u2 u3 u4 (f_MO_hashText th le lo da (u4.1) kc bg (u4.2) (u2.2.2.1) (u2.2.2.2.1) (u2.2.2.2.2.1) (u2.2.2.2.2.2))
def f_MO_fold_c3 (sg : Int32) (so : Int32) (th : Int32) (le : Int32) (lo : Int32) (da : Int32) (si : Int32) (kc : Nat → Int64) (bg : Nat → Int64) (tx : Nat → Int64) (wi : Nat → Int64) (nw : Nat → Int64) (vv : Nat → Int64) (aw_ : Nat → Int32) (fl : Nat → Int32) (rg : Nat → Int32) (u1 : Int32 × (Nat → Int64)) (u2 : Int32 × (Nat → Int64) × (Nat → Int64) × (Nat → Int64) × (Nat → Int64) × (Nat → Int32)) (u3 : Int32 × (Nat → Int64)) : Int32 × (Nat → Int64) × (Nat → Int64) × (Nat → Int64) × (Nat → Int64) × (Nat → Int32) × (Nat → Int32) := f_MO_fold_c4 sg so th le lo da si kc bg tx wi nw vv aw_ fl rg u1 u2 u3 (f_MO_addFrom 8 (0 : Int32) (8 : Int32) th le lo da (u3.1) (u3.2) (u2.2.2.2.2.2))
def f_MO_fold_c2 (sg : Int32) (so : Int32) (th : Int32) (le : Int32) (lo : Int32) (da : Int32) (si : Int32) (kc : Nat → Int64) (bg : Nat → Int64) (tx : Nat → Int64) (wi : Nat → Int64) (nw : Nat → Int64) (vv : Nat → Int64) (aw_ : Nat → Int32) (fl : Nat → Int32) (rg : Nat → Int32) (u1 : Int32 × (Nat → Int64)) (u2 : Int32 × (Nat → Int64) × (Nat → Int64) × (Nat → Int64) × (Nat → Int64) × (Nat → Int32)) : Int32 × (Nat → Int64) × (Nat → Int64) × (Nat → Int64) × (Nat → Int64) × (Nat → Int32) × (Nat → Int32) := f_MO_fold_c3 sg so th le lo da si kc bg tx wi nw vv aw_ fl rg u1 u2 (f_MO_addFrom 16 ((8 : Int32) * sg) (8 : Int32) th le lo da (u2.1) (u2.2.1) rg)
def f_MO_fold_c1 (sg : Int32) (so : Int32) (th : Int32) (le : Int32) (lo : Int32) (da : Int32) (si : Int32) (kc : Nat → Int64) (bg : Nat → Int64) (tx : Nat → Int64) (wi : Nat → Int64) (nw : Nat → Int64) (vv : Nat → Int64) (aw_ : Nat → Int32) (fl : Nat → Int32) (rg : Nat → Int32) (u1 : Int32 × (Nat → Int64)) : Int32 × (Nat → Int64) × (Nat → Int64) × (Nat → Int64) × (Nat → Int64) × (Nat → Int32) × (Nat → Int32) := f_MO_fold_c2 sg so th le lo da si kc bg tx wi nw vv aw_ fl rg u1 (f_MO_hashText th le lo da (u1.1) kc bg (u1.2) wi nw vv aw_)
def f_MO_fold (sg : Int32) (so : Int32) (th : Int32) (le : Int32) (lo : Int32) (da : Int32) (si : Int32) (kc : Nat → Int64) (bg : Nat → Int64) (tx : Nat → Int64) (wi : Nat → Int64) (nw : Nat → Int64) (vv : Nat → Int64) (aw_ : Nat → Int32) (fl : Nat → Int32) (rg : Nat → Int32) : Int32 × (Nat → Int64) × (Nat → Int64) × (Nat → Int64) × (Nat → Int64) × (Nat → Int32) × (Nat → Int32) := f_MO_fold_c1 sg so th le lo da si kc bg tx wi nw vv aw_ fl rg (f_MO_addFrom 70 ((16 : Int32) * so) (7 : Int32) th le lo da si tx fl)
set_option maxHeartbeats 4000000 in
set_option maxRecDepth 100000 in
theorem c_MO_fold (l : Launch) (dC : Nat → ClassId) (dI : Nat → Nat → Nat) (cI cJ : ClassId) (h af ak ar ag ad ac ab ax aw an av aa : Nat) (sz : Nat) (sg : Int32) (so : Int32) (th : Int32) (le : Int32) (lo : Int32) (da : Int32) (si : Int32) (kc : Nat → Int64) (bg : Nat → Int64) (tx : Nat → Int64) (wi : Nat → Int64) (nw : Nat → Int64) (vv : Nat → Int64) (aw_ : Nat → Int32) (fl : Nat → Int32) (rg : Nat → Int32) (hsi : si = 0) (hsg : sg = 0 ∨ sg = 1) (hso : 0 ≤ so ∧ so < 4) : Met l y_MO_fold ws_MO_fold ({ frames := 3, cells := 0, slots := 0, locals := 84 } : Room) (va_Pc [.ref h, .int sg, .int so] (bc_pre (dC, dI) cI cJ [(h, .inr (5, [.int th, .ref af, .ref ak, .ref ar, .ref ag, .int le, .int lo, .int da, .ref ad, .ref ac, .ref ab, .int si, .ref ax, .ref aw, .ref an, .ref av, .ref aa])), (ac, .inl (cJ, 64, .inr (.inl kc))), (ab, .inl (cJ, 8, .inr (.inl bg))), (ax, .inl (cJ, 48, .inr (.inl tx))), (aw, .inl (cJ, 64, .inr (.inl wi))), (an, .inl (cJ, 8, .inr (.inl nw))), (av, .inl (cJ, 8, .inr (.inl vv))), (aa, .inl (cI, 8, .inl aw_)), (af, .inl (cI, 70, .inl fl)), (ag, .inl (cI, 16, .inl rg))] sz)) (va_Qv (fun (_ : Unit) => True) (fun _ => bc_post (dC, dI) cI cJ (va_A [(h, .inr (5, [.int th, .ref af, .ref ak, .ref ar, .ref ag, .int le, .int lo, .int da, .ref ad, .ref ac, .ref ab, .int si, .ref ax, .ref aw, .ref an, .ref av, .ref aa])), (ac, .inl (cJ, 64, .inr (.inl kc))), (ab, .inl (cJ, 8, .inr (.inl bg))), (ax, .inl (cJ, 48, .inr (.inl tx))), (aw, .inl (cJ, 64, .inr (.inl wi))), (an, .inl (cJ, 8, .inr (.inl nw))), (av, .inl (cJ, 8, .inr (.inl vv))), (aa, .inl (cI, 8, .inl aw_)), (af, .inl (cI, 70, .inl fl)), (ag, .inl (cI, 16, .inl rg))] sz) [(h, .inr (5, [.int th, .ref af, .ref ak, .ref ar, .ref ag, .int le, .int lo, .int da, .ref ad, .ref ac, .ref ab, .int (f_MO_fold sg so th le lo da si kc bg tx wi nw vv aw_ fl rg).1, .ref ax, .ref aw, .ref an, .ref av, .ref aa])), (ac, .inl (cJ, 64, .inr (.inl kc))), (ab, .inl (cJ, 8, .inr (.inl bg))), (ax, .inl (cJ, 48, .inr (.inl (f_MO_fold sg so th le lo da si kc bg tx wi nw vv aw_ fl rg).2.1))), (aw, .inl (cJ, 64, .inr (.inl (f_MO_fold sg so th le lo da si kc bg tx wi nw vv aw_ fl rg).2.2.1))), (an, .inl (cJ, 8, .inr (.inl (f_MO_fold sg so th le lo da si kc bg tx wi nw vv aw_ fl rg).2.2.2.1))), (av, .inl (cJ, 8, .inr (.inl (f_MO_fold sg so th le lo da si kc bg tx wi nw vv aw_ fl rg).2.2.2.2.1))), (aa, .inl (cI, 8, .inl (f_MO_fold sg so th le lo da si kc bg tx wi nw vv aw_ fl rg).2.2.2.2.2.1)), (af, .inl (cI, 70, .inl fl)), (ag, .inl (cI, 16, .inl (f_MO_fold sg so th le lo da si kc bg tx wi nw vv aw_ fl rg).2.2.2.2.2.2))]) (va_A [(h, .inr (5, [.int th, .ref af, .ref ak, .ref ar, .ref ag, .int le, .int lo, .int da, .ref ad, .ref ac, .ref ab, .int si, .ref ax, .ref aw, .ref an, .ref av, .ref aa])), (ac, .inl (cJ, 64, .inr (.inl kc))), (ab, .inl (cJ, 8, .inr (.inl bg))), (ax, .inl (cJ, 48, .inr (.inl tx))), (aw, .inl (cJ, 64, .inr (.inl wi))), (an, .inl (cJ, 8, .inr (.inl nw))), (av, .inl (cJ, 8, .inr (.inl vv))), (aa, .inl (cI, 8, .inl aw_)), (af, .inl (cI, 70, .inl fl)), (ag, .inl (cI, 16, .inl rg))] sz)) 0 0 (va_A [(h, .inr (5, [.int th, .ref af, .ref ak, .ref ar, .ref ag, .int le, .int lo, .int da, .ref ad, .ref ac, .ref ab, .int si, .ref ax, .ref aw, .ref an, .ref av, .ref aa])), (ac, .inl (cJ, 64, .inr (.inl kc))), (ab, .inl (cJ, 8, .inr (.inl bg))), (ax, .inl (cJ, 48, .inr (.inl tx))), (aw, .inl (cJ, 64, .inr (.inl wi))), (an, .inl (cJ, 8, .inr (.inl nw))), (av, .inl (cJ, 8, .inr (.inl vv))), (aa, .inl (cI, 8, .inl aw_)), (af, .inl (cI, 70, .inl fl)), (ag, .inl (cI, 16, .inl rg))] sz) := by
  refine Met.ofW (cc := prog_8_method_27_code) (maxL := 4) (ret := none) (by decide) rfl ?_
  intro p e s m args below meth c s₁ B hml hv
  obtain ⟨rfl, hsz, hP, hK, hD0, hE⟩ := hv
  have hx := B.exec
  have hb := B.bytes
  have hr := B.returns
  have hts : ∀ w ∈ bc_G, w.before ([.ref h, .int sg, .int so] : List Value).toArray s = true := fun w h => atoms_spec (ws := ws_MO_fold) B.pre w (List.mem_cons_of_mem _ h)
  have hown : s.vm.findClass "BootChainModel" = some m.cls := findClass_of_methodNamed B.named
  have hlocks := B.notSynchronized
  subst hsz
  have hD := hD0.self (sz := s.heap.size)
  generalize hAe : va_A [(h, .inr (5, [.int th, .ref af, .ref ak, .ref ar, .ref ag, .int le, .int lo, .int da, .ref ad, .ref ac, .ref ab, .int si, .ref ax, .ref aw, .ref an, .ref av, .ref aa])), (ac, .inl (cJ, 64, .inr (.inl kc))), (ab, .inl (cJ, 8, .inr (.inl bg))), (ax, .inl (cJ, 48, .inr (.inl tx))), (aw, .inl (cJ, 64, .inr (.inl wi))), (an, .inl (cJ, 8, .inr (.inl nw))), (av, .inl (cJ, 8, .inr (.inl vv))), (aa, .inl (cI, 8, .inl aw_)), (af, .inl (cI, 70, .inl fl)), (ag, .inl (cI, 16, .inl rg))] s.heap.size = A at hD hE ⊢
  have hA : ∀ q : Nat, s.heap.size ≤ q → A q := fun q h => by rw [← hAe]; exact Or.inr h
  have hS : va_S A s.heap s.heap [] := va_S.rf
  have lp_49 : ∀ (n : Nat) (x3 : Int32) (y0_11 : Int32) (y3 : Nat → Int64) (y4 : Nat → Int64) (y5 : Nat → Int64) (y6 : Nat → Int64) (y7 : Nat → Int32) (y9 : Nat → Int32) (H : Heap) (locs : List Loc) (ls : Array Slot), 0 ≤ x3 ∧ x3 ≤ 8 → ((8 : Int32).toInt - x3.toInt).toNat < n → lv_has ls 4 [(0, .ref h), (1, .int sg), (3, .int x3)] → va_P (dC, dI) classes [(h, .inr (5, [.int th, .ref af, .ref ak, .ref ar, .ref ag, .int le, .int lo, .int da, .ref ad, .ref ac, .ref ab, .int y0_11, .ref ax, .ref aw, .ref an, .ref av, .ref aa])), (ac, .inl (cJ, 64, .inr (.inl kc))), (ab, .inl (cJ, 8, .inr (.inl bg))), (ax, .inl (cJ, 48, .inr (.inl y3))), (aw, .inl (cJ, 64, .inr (.inl y4))), (an, .inl (cJ, 8, .inr (.inl y5))), (av, .inl (cJ, 8, .inr (.inl y6))), (aa, .inl (cI, 8, .inl y7)), (af, .inl (cI, 70, .inl fl)), (ag, .inl (cI, 16, .inl y9))] H → va_D A [(h, .inr (5, [.int th, .ref af, .ref ak, .ref ar, .ref ag, .int le, .int lo, .int da, .ref ad, .ref ac, .ref ab, .int y0_11, .ref ax, .ref aw, .ref an, .ref av, .ref aa])), (ac, .inl (cJ, 64, .inr (.inl kc))), (ab, .inl (cJ, 8, .inr (.inl bg))), (ax, .inl (cJ, 48, .inr (.inl y3))), (aw, .inl (cJ, 64, .inr (.inl y4))), (an, .inl (cJ, 8, .inr (.inl y5))), (av, .inl (cJ, 8, .inr (.inl y6))), (aa, .inl (cI, 8, .inl y7)), (af, .inl (cI, 70, .inl fl)), (ag, .inl (cI, 16, .inl y9))] → va_S A s.heap H locs → W p l e (headSpec ws_MO_fold ({ frames := 3, cells := 0, slots := 0, locals := 84 } : Room)).room s m ([.ref h, .int sg, .int so] : List Value).toArray below meth c H locs 0 0 (MQ below (va_Qv (fun (_ : Unit) => True) (fun _ => bc_post (dC, dI) cI cJ A [(h, .inr (5, [.int th, .ref af, .ref ak, .ref ar, .ref ag, .int le, .int lo, .int da, .ref ad, .ref ac, .ref ab, .int (f_MO_fold_49 sg so th le lo da si kc bg tx wi nw vv aw_ fl rg n x3 y0_11 y3 y4 y5 y6 y7 y9).1, .ref ax, .ref aw, .ref an, .ref av, .ref aa])), (ac, .inl (cJ, 64, .inr (.inl kc))), (ab, .inl (cJ, 8, .inr (.inl bg))), (ax, .inl (cJ, 48, .inr (.inl (f_MO_fold_49 sg so th le lo da si kc bg tx wi nw vv aw_ fl rg n x3 y0_11 y3 y4 y5 y6 y7 y9).2.1))), (aw, .inl (cJ, 64, .inr (.inl (f_MO_fold_49 sg so th le lo da si kc bg tx wi nw vv aw_ fl rg n x3 y0_11 y3 y4 y5 y6 y7 y9).2.2.1))), (an, .inl (cJ, 8, .inr (.inl (f_MO_fold_49 sg so th le lo da si kc bg tx wi nw vv aw_ fl rg n x3 y0_11 y3 y4 y5 y6 y7 y9).2.2.2.1))), (av, .inl (cJ, 8, .inr (.inl (f_MO_fold_49 sg so th le lo da si kc bg tx wi nw vv aw_ fl rg n x3 y0_11 y3 y4 y5 y6 y7 y9).2.2.2.2.1))), (aa, .inl (cI, 8, .inl (f_MO_fold_49 sg so th le lo da si kc bg tx wi nw vv aw_ fl rg n x3 y0_11 y3 y4 y5 y6 y7 y9).2.2.2.2.2.1)), (af, .inl (cI, 70, .inl fl)), (ag, .inl (cI, 16, .inl (f_MO_fold_49 sg so th le lo da si kc bg tx wi nw vv aw_ fl rg n x3 y0_11 y3 y4 y5 y6 y7 y9).2.2.2.2.2.2))]) A) ([.ref h, .int sg, .int so] : List Value).toArray s 0 0 A) (F0 m 49 ls []) := by
    intro n
    induction n with
    | zero => intro x3 y0_11 y3 y4 y5 y6 y7 y9 H locs ls hI hm; exact absurd hm (Nat.not_lt_zero _)
    | succ n ih =>
      intro x3 y0_11 y3 y4 y5 y6 y7 y9 H locs ls hI hm hl hP hD hS
      refine lv_iload_n hx hb d_MO_fold_49 rfl (lv_at hl 2 rfl) ?_
      refine lv_bipush (v := 8) hx hb d_MO_fold_50 (by decide) ?_
      refine lv_icmp_ge (tgt := 78) hx hb d_MO_fold_52 (by decide) (fun h2 => ?_) (fun h2 => ?_)
      · have e0 : (f_MO_fold_49 sg so th le lo da si kc bg tx wi nw vv aw_ fl rg (n + 1) x3 y0_11 y3 y4 y5 y6 y7 y9) = (y0_11, y3, y4, y5, y6, y7, y9) := by rw [f_MO_fold_49, if_pos h2]
        rw [e0]
        exact W.vret hx hb hr (fun t ht hW => ⟨⟨(), rfl, trivial, by rw [ht]; exact hP, va_K.moved hW.alike hK, hD⟩, hS.F ht⟩) hS.2.2 d_MO_fold_78
      · refine lv_aload_n hx hb d_MO_fold_55 rfl (lv_at hl 0 rfl) ?_
        refine va_get (D := (dC, dI)) (ci := 5) (v := .ref ag) (C := R_MO) (T := F_MO) (N := 17) hx hb hts in_MO hown hK hP 0 rfl rfl 4 (by decide) (hts _ gw_522) (fun _ h9 => h9) rfl d_MO_fold_56 ?_
        refine lv_bipush (v := 8) hx hb d_MO_fold_59 (by decide) ?_
        refine lv_iload_n hx hb d_MO_fold_61 rfl (lv_at hl 1 rfl) ?_
        refine lv_imul hx hb d_MO_fold_62 ?_
        refine lv_iload_n hx hb d_MO_fold_63 rfl (lv_at hl 2 rfl) ?_
        refine lv_iadd hx hb d_MO_fold_64 ?_
        refine lv_aload_n hx hb d_MO_fold_65 rfl (lv_at hl 0 rfl) ?_
        refine va_get (D := (dC, dI)) (ci := 5) (v := .ref aa) (C := R_MO) (T := F_MO) (N := 17) hx hb hts in_MO hown hK hP 0 rfl rfl 16 (by decide) (hts _ gw_534) (fun _ h9 => h9) rfl d_MO_fold_66 ?_
        refine lv_iload_n hx hb d_MO_fold_69 rfl (lv_at hl 2 rfl) ?_
        refine va_iald hx hb hK hP 7 0 rfl rfl (by exact ix_sub 8 8 hI.1 (by assumption) rfl (by decide) (by decide)) d_MO_fold_70 ?_
        refine va_iast hx hb hK hP hD hS 9 0 rfl rfl (by exact ro_reg hsg _ hI.1 (by assumption)) d_MO_fold_71 (fun H locs hP hD hS => ?_)
        have hP : va_P (dC, dI) classes [(h, .inr (5, [.int th, .ref af, .ref ak, .ref ar, .ref ag, .int le, .int lo, .int da, .ref ad, .ref ac, .ref ab, .int y0_11, .ref ax, .ref aw, .ref an, .ref av, .ref aa])), (ac, .inl (cJ, 64, .inr (.inl kc))), (ab, .inl (cJ, 8, .inr (.inl bg))), (ax, .inl (cJ, 48, .inr (.inl y3))), (aw, .inl (cJ, 64, .inr (.inl y4))), (an, .inl (cJ, 8, .inr (.inl y5))), (av, .inl (cJ, 8, .inr (.inl y6))), (aa, .inl (cI, 8, .inl y7)), (af, .inl (cI, 70, .inl fl)), (ag, .inl (cI, 16, .inl (upd y9 ((((8 : Int32) * sg) + x3)).toNatClampNeg (y7 (x3).toNatClampNeg))))] H := hP
        have hD : va_D A [(h, .inr (5, [.int th, .ref af, .ref ak, .ref ar, .ref ag, .int le, .int lo, .int da, .ref ad, .ref ac, .ref ab, .int y0_11, .ref ax, .ref aw, .ref an, .ref av, .ref aa])), (ac, .inl (cJ, 64, .inr (.inl kc))), (ab, .inl (cJ, 8, .inr (.inl bg))), (ax, .inl (cJ, 48, .inr (.inl y3))), (aw, .inl (cJ, 64, .inr (.inl y4))), (an, .inl (cJ, 8, .inr (.inl y5))), (av, .inl (cJ, 8, .inr (.inl y6))), (aa, .inl (cI, 8, .inl y7)), (af, .inl (cI, 70, .inl fl)), (ag, .inl (cI, 16, .inl (upd y9 ((((8 : Int32) * sg) + x3)).toNatClampNeg (y7 (x3).toNatClampNeg))))] := hD
        refine lv_iinc (k := 2) (v := (x3 + (1 : Int32))) (lv' := [(3, .int (x3 + (1 : Int32))), (0, .ref h), (1, .int sg)]) hx hb d_MO_fold_72 hl rfl rfl (by decide) rfl (fun ls hl => ?_)
        refine lv_goto (tgt := 49) hx hb d_MO_fold_75 (by decide) ?_
        have e0 : (f_MO_fold_49 sg so th le lo da si kc bg tx wi nw vv aw_ fl rg (n + 1) x3 y0_11 y3 y4 y5 y6 y7 y9) = f_MO_fold_49 sg so th le lo da si kc bg tx wi nw vv aw_ fl rg n (x3 + (1 : Int32)) y0_11 y3 y4 y5 y6 y7 (upd y9 ((((8 : Int32) * sg) + x3)).toNatClampNeg (y7 (x3).toNatClampNeg)) := by rw [f_MO_fold_49, if_neg h2]
        rw [e0]
        exact ih (x3 + (1 : Int32)) y0_11 y3 y4 y5 y6 y7 (upd y9 ((((8 : Int32) * sg) + x3)).toNatClampNeg (y7 (x3).toNatClampNeg)) _ _ ls (lp_up hI.1 (by assumption)).1 (lp_ms hI.1 (by assumption) hm) (lv_sub hl [1, 2, 0] rfl) hP hD hS
  have hl := lv_entry ([.ref h, .int sg, .int so]) (n := 4) (Nat.le_of_ble_eq_true rfl)
  rw [lg_entry_eq]
  generalize (lg_sl ([.ref h, .int sg, .int so]) ++ List.replicate (4 - (lg_sl ([.ref h, .int sg, .int so])).length) Slot.unset).toArray = ls at hl ⊢
  have hl : lv_has ls 4 [(0, .ref h), (1, .int sg), (2, .int so)] := hl
  refine lv_aload_n hx hb d_MO_fold_0 rfl (lv_at hl 0 rfl) ?_
  refine lv_aload_n hx hb d_MO_fold_1 rfl (lv_at hl 0 rfl) ?_
  refine va_get (D := (dC, dI)) (ci := 5) (v := .ref af) (C := R_MO) (T := F_MO) (N := 17) hx hb hts in_MO hown hK hP 0 rfl rfl 1 (by decide) (hts _ gw_519) (fun _ h9 => h9) rfl d_MO_fold_2 ?_
  refine lv_bipush (v := 16) hx hb d_MO_fold_5 (by decide) ?_
  refine lv_iload_n hx hb d_MO_fold_7 rfl (lv_at hl 2 rfl) ?_
  refine lv_imul hx hb d_MO_fold_8 ?_
  refine lv_bipush (v := 7) hx hb d_MO_fold_9 (by decide) ?_
  have hPc := hP.sub (ws' := [(h, .inr (5, [.int th, .ref af, .ref ak, .ref ar, .ref ag, .int le, .int lo, .int da, .ref ad, .ref ac, .ref ab, .int si, .ref ax, .ref aw, .ref an, .ref av, .ref aa])), (ax, .inl (cJ, 48, .inr (.inl tx))), (af, .inl (cI, 70, .inl fl))]) [0, 3, 8] rfl
  have hDc := hD.sub (ws' := [(h, .inr (5, [.int th, .ref af, .ref ak, .ref ar, .ref ag, .int le, .int lo, .int da, .ref ad, .ref ac, .ref ab, .int si, .ref ax, .ref aw, .ref an, .ref av, .ref aa])), (ax, .inl (cJ, 48, .inr (.inl tx))), (af, .inl (cI, 70, .inl fl))]) [0, 3, 8] (by decide) rfl
  have hFc := va_free (wc := [(h, .inr (5, [.int th, .ref af, .ref ak, .ref ar, .ref ag, .int le, .int lo, .int da, .ref ad, .ref ac, .ref ab, .int si, .ref ax, .ref aw, .ref an, .ref av, .ref aa])), (ax, .inl (cJ, 48, .inr (.inl tx))), (af, .inl (cI, 70, .inl fl))]) hD hS hA [0, 3, 8] rfl
  refine va_callv (va_runV (As := [.ref af, .int ((16 : Int32) * so), .int (7 : Int32)]) (rest := []) ⟨hx, hb, hml, hown, hts⟩ (c_MO_addFrom l dC dI cI cJ h af af ak ar ag ad ac ab ax aw an av aa _ 70 ((16 : Int32) * so) (7 : Int32) th le lo da si tx fl (ad_of (k := 0) hsi 7 (by decide)) (ro_fl hso)) ⟨callB_of 3 hts (bc_good gw_642) rfl rfl rfl (hts _ gw_6) (hts _ gw_640) (by decide +kernel) ⟨Nat.le_of_ble_eq_true rfl, Nat.le_of_ble_eq_true rfl⟩, (hts _ gw_641), (hts _ gw_722)⟩ ⟨bc_blind, va_recv (q0 := 0) hK hP (q := (R_MO, F_MO, 17)) rfl rfl, fun U hU hW => ⟨rfl, bc_give hPc hDc hK hE hS hFc U hU hW⟩⟩ rfl rfl hl.1 rfl (lv_room (Nat.le_of_ble_eq_true rfl)) d_MO_fold_11 ⟨Nat.le_of_ble_eq_true rfl, Nat.le_of_ble_eq_true rfl⟩) hS (fun q _ h => hFc q h) hFc (fun u t H9 locs ht hvm hp hB hz1 hk1 hS => ?_)
  obtain ⟨hP, hD⟩ := va_join (wr := [(ac, .inl (cJ, 64, .inr (.inl kc))), (ab, .inl (cJ, 8, .inr (.inl bg))), (aw, .inl (cJ, 64, .inr (.inl wi))), (an, .inl (cJ, 8, .inr (.inl nw))), (av, .inl (cJ, 8, .inr (.inl vv))), (aa, .inl (cI, 8, .inl aw_)), (ag, .inl (cI, 16, .inl rg))]) (w1 := [(h, .inr (5, [.int th, .ref af, .ref ak, .ref ar, .ref ag, .int le, .int lo, .int da, .ref ad, .ref ac, .ref ab, .int ((f_MO_addFrom 70 ((16 : Int32) * so) (7 : Int32) th le lo da si tx fl).1), .ref ax, .ref aw, .ref an, .ref av, .ref aa])), (ax, .inl (cJ, 48, .inr (.inl ((f_MO_addFrom 70 ((16 : Int32) * so) (7 : Int32) th le lo da si tx fl).2)))), (af, .inl (cI, 70, .inl fl))]) hP hD [0, 3, 8] [1, 2, 4, 5, 6, 7, 9] rfl rfl (by decide) (by decide) hk1 hFc (ht ▸ hB.1) hB.2.2
  have hP := hP.sub (ws' := [(h, .inr (5, [.int th, .ref af, .ref ak, .ref ar, .ref ag, .int le, .int lo, .int da, .ref ad, .ref ac, .ref ab, .int ((f_MO_addFrom 70 ((16 : Int32) * so) (7 : Int32) th le lo da si tx fl).1), .ref ax, .ref aw, .ref an, .ref av, .ref aa])), (ac, .inl (cJ, 64, .inr (.inl kc))), (ab, .inl (cJ, 8, .inr (.inl bg))), (ax, .inl (cJ, 48, .inr (.inl ((f_MO_addFrom 70 ((16 : Int32) * so) (7 : Int32) th le lo da si tx fl).2)))), (aw, .inl (cJ, 64, .inr (.inl wi))), (an, .inl (cJ, 8, .inr (.inl nw))), (av, .inl (cJ, 8, .inr (.inl vv))), (aa, .inl (cI, 8, .inl aw_)), (af, .inl (cI, 70, .inl fl)), (ag, .inl (cI, 16, .inl rg))]) [7, 0, 1, 8, 2, 3, 4, 5, 9, 6] rfl
  have hD := hD.sub (ws' := [(h, .inr (5, [.int th, .ref af, .ref ak, .ref ar, .ref ag, .int le, .int lo, .int da, .ref ad, .ref ac, .ref ab, .int ((f_MO_addFrom 70 ((16 : Int32) * so) (7 : Int32) th le lo da si tx fl).1), .ref ax, .ref aw, .ref an, .ref av, .ref aa])), (ac, .inl (cJ, 64, .inr (.inl kc))), (ab, .inl (cJ, 8, .inr (.inl bg))), (ax, .inl (cJ, 48, .inr (.inl ((f_MO_addFrom 70 ((16 : Int32) * so) (7 : Int32) th le lo da si tx fl).2)))), (aw, .inl (cJ, 64, .inr (.inl wi))), (an, .inl (cJ, 8, .inr (.inl nw))), (av, .inl (cJ, 8, .inr (.inl vv))), (aa, .inl (cI, 8, .inl aw_)), (af, .inl (cI, 70, .inl fl)), (ag, .inl (cI, 16, .inl rg))]) [7, 0, 1, 8, 2, 3, 4, 5, 9, 6] (by decide) rfl
  generalize H9 = H at hP hS ⊢
  have e0 : (f_MO_fold sg so th le lo da si kc bg tx wi nw vv aw_ fl rg) = f_MO_fold_c1 sg so th le lo da si kc bg tx wi nw vv aw_ fl rg (f_MO_addFrom 70 ((16 : Int32) * so) (7 : Int32) th le lo da si tx fl) := by rw [f_MO_fold]
  rw [e0]
  generalize hu1 : (f_MO_addFrom 70 ((16 : Int32) * so) (7 : Int32) th le lo da si tx fl) = u1 at hP hD ⊢
  have hP : va_P (dC, dI) classes [(h, .inr (5, [.int th, .ref af, .ref ak, .ref ar, .ref ag, .int le, .int lo, .int da, .ref ad, .ref ac, .ref ab, .int (u1.1), .ref ax, .ref aw, .ref an, .ref av, .ref aa])), (ac, .inl (cJ, 64, .inr (.inl kc))), (ab, .inl (cJ, 8, .inr (.inl bg))), (ax, .inl (cJ, 48, .inr (.inl (u1.2)))), (aw, .inl (cJ, 64, .inr (.inl wi))), (an, .inl (cJ, 8, .inr (.inl nw))), (av, .inl (cJ, 8, .inr (.inl vv))), (aa, .inl (cI, 8, .inl aw_)), (af, .inl (cI, 70, .inl fl)), (ag, .inl (cI, 16, .inl rg))] H := hP
  have hD : va_D A [(h, .inr (5, [.int th, .ref af, .ref ak, .ref ar, .ref ag, .int le, .int lo, .int da, .ref ad, .ref ac, .ref ab, .int (u1.1), .ref ax, .ref aw, .ref an, .ref av, .ref aa])), (ac, .inl (cJ, 64, .inr (.inl kc))), (ab, .inl (cJ, 8, .inr (.inl bg))), (ax, .inl (cJ, 48, .inr (.inl (u1.2)))), (aw, .inl (cJ, 64, .inr (.inl wi))), (an, .inl (cJ, 8, .inr (.inl nw))), (av, .inl (cJ, 8, .inr (.inl vv))), (aa, .inl (cI, 8, .inl aw_)), (af, .inl (cI, 70, .inl fl)), (ag, .inl (cI, 16, .inl rg))] := hD
  refine lv_aload_n hx hb d_MO_fold_14 rfl (lv_at hl 0 rfl) ?_
  have hPc := hP.sub (ws' := [(h, .inr (5, [.int th, .ref af, .ref ak, .ref ar, .ref ag, .int le, .int lo, .int da, .ref ad, .ref ac, .ref ab, .int (u1.1), .ref ax, .ref aw, .ref an, .ref av, .ref aa])), (ac, .inl (cJ, 64, .inr (.inl kc))), (ab, .inl (cJ, 8, .inr (.inl bg))), (ax, .inl (cJ, 48, .inr (.inl (u1.2)))), (aw, .inl (cJ, 64, .inr (.inl wi))), (an, .inl (cJ, 8, .inr (.inl nw))), (av, .inl (cJ, 8, .inr (.inl vv))), (aa, .inl (cI, 8, .inl aw_))]) [0, 1, 2, 3, 4, 5, 6, 7] rfl
  have hDc := hD.sub (ws' := [(h, .inr (5, [.int th, .ref af, .ref ak, .ref ar, .ref ag, .int le, .int lo, .int da, .ref ad, .ref ac, .ref ab, .int (u1.1), .ref ax, .ref aw, .ref an, .ref av, .ref aa])), (ac, .inl (cJ, 64, .inr (.inl kc))), (ab, .inl (cJ, 8, .inr (.inl bg))), (ax, .inl (cJ, 48, .inr (.inl (u1.2)))), (aw, .inl (cJ, 64, .inr (.inl wi))), (an, .inl (cJ, 8, .inr (.inl nw))), (av, .inl (cJ, 8, .inr (.inl vv))), (aa, .inl (cI, 8, .inl aw_))]) [0, 1, 2, 3, 4, 5, 6, 7] (by decide) rfl
  have hFc := va_free (wc := [(h, .inr (5, [.int th, .ref af, .ref ak, .ref ar, .ref ag, .int le, .int lo, .int da, .ref ad, .ref ac, .ref ab, .int (u1.1), .ref ax, .ref aw, .ref an, .ref av, .ref aa])), (ac, .inl (cJ, 64, .inr (.inl kc))), (ab, .inl (cJ, 8, .inr (.inl bg))), (ax, .inl (cJ, 48, .inr (.inl (u1.2)))), (aw, .inl (cJ, 64, .inr (.inl wi))), (an, .inl (cJ, 8, .inr (.inl nw))), (av, .inl (cJ, 8, .inr (.inl vv))), (aa, .inl (cI, 8, .inl aw_))]) hD hS hA [0, 1, 2, 3, 4, 5, 6, 7] rfl
  refine va_callv (va_runV (As := []) (rest := []) ⟨hx, hb, hml, hown, hts⟩ (c_MO_hashText l dC dI cI cJ h af ak ar ag ad ac ab ax aw an av aa _ th le lo da (u1.1) kc bg (u1.2) wi nw vv aw_ (by rw [← hu1]; exact sz_ok (mo_row 0 7 hsi (by decide)) (by decide))) ⟨callB_of 0 hts (bc_good gw_601) rfl rfl rfl (hts _ gw_6) (hts _ gw_599) (by decide +kernel) ⟨Nat.le_of_ble_eq_true rfl, Nat.le_of_ble_eq_true rfl⟩, (hts _ gw_600), (hts _ gw_714)⟩ ⟨bc_blind, va_recv (q0 := 0) hK hP (q := (R_MO, F_MO, 17)) rfl rfl, fun U hU hW => ⟨rfl, bc_give hPc hDc hK hE hS hFc U hU hW⟩⟩ rfl rfl hl.1 rfl (lv_room (Nat.le_of_ble_eq_true rfl)) d_MO_fold_15 ⟨Nat.le_of_ble_eq_true rfl, Nat.le_of_ble_eq_true rfl⟩) hS (fun q _ h => hFc q h) hFc (fun u t H9 locs ht hvm hp hB hz1 hk1 hS => ?_)
  obtain ⟨hP, hD⟩ := va_join (wr := [(af, .inl (cI, 70, .inl fl)), (ag, .inl (cI, 16, .inl rg))]) (w1 := [(h, .inr (5, [.int th, .ref af, .ref ak, .ref ar, .ref ag, .int le, .int lo, .int da, .ref ad, .ref ac, .ref ab, .int ((f_MO_hashText th le lo da (u1.1) kc bg (u1.2) wi nw vv aw_).1), .ref ax, .ref aw, .ref an, .ref av, .ref aa])), (ac, .inl (cJ, 64, .inr (.inl kc))), (ab, .inl (cJ, 8, .inr (.inl bg))), (ax, .inl (cJ, 48, .inr (.inl ((f_MO_hashText th le lo da (u1.1) kc bg (u1.2) wi nw vv aw_).2.1)))), (aw, .inl (cJ, 64, .inr (.inl ((f_MO_hashText th le lo da (u1.1) kc bg (u1.2) wi nw vv aw_).2.2.1)))), (an, .inl (cJ, 8, .inr (.inl ((f_MO_hashText th le lo da (u1.1) kc bg (u1.2) wi nw vv aw_).2.2.2.1)))), (av, .inl (cJ, 8, .inr (.inl ((f_MO_hashText th le lo da (u1.1) kc bg (u1.2) wi nw vv aw_).2.2.2.2.1)))), (aa, .inl (cI, 8, .inl ((f_MO_hashText th le lo da (u1.1) kc bg (u1.2) wi nw vv aw_).2.2.2.2.2)))]) hP hD [0, 1, 2, 3, 4, 5, 6, 7] [8, 9] rfl rfl (by decide) (by decide) hk1 hFc (ht ▸ hB.1) hB.2.2
  have hP := hP.sub (ws' := [(h, .inr (5, [.int th, .ref af, .ref ak, .ref ar, .ref ag, .int le, .int lo, .int da, .ref ad, .ref ac, .ref ab, .int ((f_MO_hashText th le lo da (u1.1) kc bg (u1.2) wi nw vv aw_).1), .ref ax, .ref aw, .ref an, .ref av, .ref aa])), (ac, .inl (cJ, 64, .inr (.inl kc))), (ab, .inl (cJ, 8, .inr (.inl bg))), (ax, .inl (cJ, 48, .inr (.inl ((f_MO_hashText th le lo da (u1.1) kc bg (u1.2) wi nw vv aw_).2.1)))), (aw, .inl (cJ, 64, .inr (.inl ((f_MO_hashText th le lo da (u1.1) kc bg (u1.2) wi nw vv aw_).2.2.1)))), (an, .inl (cJ, 8, .inr (.inl ((f_MO_hashText th le lo da (u1.1) kc bg (u1.2) wi nw vv aw_).2.2.2.1)))), (av, .inl (cJ, 8, .inr (.inl ((f_MO_hashText th le lo da (u1.1) kc bg (u1.2) wi nw vv aw_).2.2.2.2.1)))), (aa, .inl (cI, 8, .inl ((f_MO_hashText th le lo da (u1.1) kc bg (u1.2) wi nw vv aw_).2.2.2.2.2))), (af, .inl (cI, 70, .inl fl)), (ag, .inl (cI, 16, .inl rg))]) [2, 3, 4, 5, 6, 7, 8, 9, 0, 1] rfl
  have hD := hD.sub (ws' := [(h, .inr (5, [.int th, .ref af, .ref ak, .ref ar, .ref ag, .int le, .int lo, .int da, .ref ad, .ref ac, .ref ab, .int ((f_MO_hashText th le lo da (u1.1) kc bg (u1.2) wi nw vv aw_).1), .ref ax, .ref aw, .ref an, .ref av, .ref aa])), (ac, .inl (cJ, 64, .inr (.inl kc))), (ab, .inl (cJ, 8, .inr (.inl bg))), (ax, .inl (cJ, 48, .inr (.inl ((f_MO_hashText th le lo da (u1.1) kc bg (u1.2) wi nw vv aw_).2.1)))), (aw, .inl (cJ, 64, .inr (.inl ((f_MO_hashText th le lo da (u1.1) kc bg (u1.2) wi nw vv aw_).2.2.1)))), (an, .inl (cJ, 8, .inr (.inl ((f_MO_hashText th le lo da (u1.1) kc bg (u1.2) wi nw vv aw_).2.2.2.1)))), (av, .inl (cJ, 8, .inr (.inl ((f_MO_hashText th le lo da (u1.1) kc bg (u1.2) wi nw vv aw_).2.2.2.2.1)))), (aa, .inl (cI, 8, .inl ((f_MO_hashText th le lo da (u1.1) kc bg (u1.2) wi nw vv aw_).2.2.2.2.2))), (af, .inl (cI, 70, .inl fl)), (ag, .inl (cI, 16, .inl rg))]) [2, 3, 4, 5, 6, 7, 8, 9, 0, 1] (by decide) rfl
  generalize H9 = H at hP hS ⊢
  have e0 : (f_MO_fold_c1 sg so th le lo da si kc bg tx wi nw vv aw_ fl rg u1) = f_MO_fold_c2 sg so th le lo da si kc bg tx wi nw vv aw_ fl rg u1 (f_MO_hashText th le lo da (u1.1) kc bg (u1.2) wi nw vv aw_) := by rw [f_MO_fold_c1]
  rw [e0]
  generalize hu2 : (f_MO_hashText th le lo da (u1.1) kc bg (u1.2) wi nw vv aw_) = u2 at hP hD ⊢
  have hP : va_P (dC, dI) classes [(h, .inr (5, [.int th, .ref af, .ref ak, .ref ar, .ref ag, .int le, .int lo, .int da, .ref ad, .ref ac, .ref ab, .int (u2.1), .ref ax, .ref aw, .ref an, .ref av, .ref aa])), (ac, .inl (cJ, 64, .inr (.inl kc))), (ab, .inl (cJ, 8, .inr (.inl bg))), (ax, .inl (cJ, 48, .inr (.inl (u2.2.1)))), (aw, .inl (cJ, 64, .inr (.inl (u2.2.2.1)))), (an, .inl (cJ, 8, .inr (.inl (u2.2.2.2.1)))), (av, .inl (cJ, 8, .inr (.inl (u2.2.2.2.2.1)))), (aa, .inl (cI, 8, .inl (u2.2.2.2.2.2))), (af, .inl (cI, 70, .inl fl)), (ag, .inl (cI, 16, .inl rg))] H := hP
  have hD : va_D A [(h, .inr (5, [.int th, .ref af, .ref ak, .ref ar, .ref ag, .int le, .int lo, .int da, .ref ad, .ref ac, .ref ab, .int (u2.1), .ref ax, .ref aw, .ref an, .ref av, .ref aa])), (ac, .inl (cJ, 64, .inr (.inl kc))), (ab, .inl (cJ, 8, .inr (.inl bg))), (ax, .inl (cJ, 48, .inr (.inl (u2.2.1)))), (aw, .inl (cJ, 64, .inr (.inl (u2.2.2.1)))), (an, .inl (cJ, 8, .inr (.inl (u2.2.2.2.1)))), (av, .inl (cJ, 8, .inr (.inl (u2.2.2.2.2.1)))), (aa, .inl (cI, 8, .inl (u2.2.2.2.2.2))), (af, .inl (cI, 70, .inl fl)), (ag, .inl (cI, 16, .inl rg))] := hD
  refine lv_aload_n hx hb d_MO_fold_18 rfl (lv_at hl 0 rfl) ?_
  refine lv_aload_n hx hb d_MO_fold_19 rfl (lv_at hl 0 rfl) ?_
  refine va_get (D := (dC, dI)) (ci := 5) (v := .ref ag) (C := R_MO) (T := F_MO) (N := 17) hx hb hts in_MO hown hK hP 0 rfl rfl 4 (by decide) (hts _ gw_522) (fun _ h9 => h9) rfl d_MO_fold_20 ?_
  refine lv_bipush (v := 8) hx hb d_MO_fold_23 (by decide) ?_
  refine lv_iload_n hx hb d_MO_fold_25 rfl (lv_at hl 1 rfl) ?_
  refine lv_imul hx hb d_MO_fold_26 ?_
  refine lv_bipush (v := 8) hx hb d_MO_fold_27 (by decide) ?_
  have hPc := hP.sub (ws' := [(h, .inr (5, [.int th, .ref af, .ref ak, .ref ar, .ref ag, .int le, .int lo, .int da, .ref ad, .ref ac, .ref ab, .int (u2.1), .ref ax, .ref aw, .ref an, .ref av, .ref aa])), (ax, .inl (cJ, 48, .inr (.inl (u2.2.1)))), (ag, .inl (cI, 16, .inl rg))]) [0, 3, 9] rfl
  have hDc := hD.sub (ws' := [(h, .inr (5, [.int th, .ref af, .ref ak, .ref ar, .ref ag, .int le, .int lo, .int da, .ref ad, .ref ac, .ref ab, .int (u2.1), .ref ax, .ref aw, .ref an, .ref av, .ref aa])), (ax, .inl (cJ, 48, .inr (.inl (u2.2.1)))), (ag, .inl (cI, 16, .inl rg))]) [0, 3, 9] (by decide) rfl
  have hFc := va_free (wc := [(h, .inr (5, [.int th, .ref af, .ref ak, .ref ar, .ref ag, .int le, .int lo, .int da, .ref ad, .ref ac, .ref ab, .int (u2.1), .ref ax, .ref aw, .ref an, .ref av, .ref aa])), (ax, .inl (cJ, 48, .inr (.inl (u2.2.1)))), (ag, .inl (cI, 16, .inl rg))]) hD hS hA [0, 3, 9] rfl
  refine va_callv (va_runV (As := [.ref ag, .int ((8 : Int32) * sg), .int (8 : Int32)]) (rest := []) ⟨hx, hb, hml, hown, hts⟩ (c_MO_addFrom l dC dI cI cJ h ag af ak ar ag ad ac ab ax aw an av aa _ 16 ((8 : Int32) * sg) (8 : Int32) th le lo da (u2.1) (u2.2.1) rg (by rw [← hu2, mo_hash0]; exact ad_of (k := 0) rfl 8 (by decide)) (ro_reg hsg)) ⟨callB_of 3 hts (bc_good gw_642) rfl rfl rfl (hts _ gw_6) (hts _ gw_640) (by decide +kernel) ⟨Nat.le_of_ble_eq_true rfl, Nat.le_of_ble_eq_true rfl⟩, (hts _ gw_641), (hts _ gw_722)⟩ ⟨bc_blind, va_recv (q0 := 0) hK hP (q := (R_MO, F_MO, 17)) rfl rfl, fun U hU hW => ⟨rfl, bc_give hPc hDc hK hE hS hFc U hU hW⟩⟩ rfl rfl hl.1 rfl (lv_room (Nat.le_of_ble_eq_true rfl)) d_MO_fold_29 ⟨Nat.le_of_ble_eq_true rfl, Nat.le_of_ble_eq_true rfl⟩) hS (fun q _ h => hFc q h) hFc (fun u t H9 locs ht hvm hp hB hz1 hk1 hS => ?_)
  obtain ⟨hP, hD⟩ := va_join (wr := [(ac, .inl (cJ, 64, .inr (.inl kc))), (ab, .inl (cJ, 8, .inr (.inl bg))), (aw, .inl (cJ, 64, .inr (.inl (u2.2.2.1)))), (an, .inl (cJ, 8, .inr (.inl (u2.2.2.2.1)))), (av, .inl (cJ, 8, .inr (.inl (u2.2.2.2.2.1)))), (aa, .inl (cI, 8, .inl (u2.2.2.2.2.2))), (af, .inl (cI, 70, .inl fl))]) (w1 := [(h, .inr (5, [.int th, .ref af, .ref ak, .ref ar, .ref ag, .int le, .int lo, .int da, .ref ad, .ref ac, .ref ab, .int ((f_MO_addFrom 16 ((8 : Int32) * sg) (8 : Int32) th le lo da (u2.1) (u2.2.1) rg).1), .ref ax, .ref aw, .ref an, .ref av, .ref aa])), (ax, .inl (cJ, 48, .inr (.inl ((f_MO_addFrom 16 ((8 : Int32) * sg) (8 : Int32) th le lo da (u2.1) (u2.2.1) rg).2)))), (ag, .inl (cI, 16, .inl rg))]) hP hD [0, 3, 9] [1, 2, 4, 5, 6, 7, 8] rfl rfl (by decide) (by decide) hk1 hFc (ht ▸ hB.1) hB.2.2
  have hP := hP.sub (ws' := [(h, .inr (5, [.int th, .ref af, .ref ak, .ref ar, .ref ag, .int le, .int lo, .int da, .ref ad, .ref ac, .ref ab, .int ((f_MO_addFrom 16 ((8 : Int32) * sg) (8 : Int32) th le lo da (u2.1) (u2.2.1) rg).1), .ref ax, .ref aw, .ref an, .ref av, .ref aa])), (ac, .inl (cJ, 64, .inr (.inl kc))), (ab, .inl (cJ, 8, .inr (.inl bg))), (ax, .inl (cJ, 48, .inr (.inl ((f_MO_addFrom 16 ((8 : Int32) * sg) (8 : Int32) th le lo da (u2.1) (u2.2.1) rg).2)))), (aw, .inl (cJ, 64, .inr (.inl (u2.2.2.1)))), (an, .inl (cJ, 8, .inr (.inl (u2.2.2.2.1)))), (av, .inl (cJ, 8, .inr (.inl (u2.2.2.2.2.1)))), (aa, .inl (cI, 8, .inl (u2.2.2.2.2.2))), (af, .inl (cI, 70, .inl fl)), (ag, .inl (cI, 16, .inl rg))]) [7, 0, 1, 8, 2, 3, 4, 5, 6, 9] rfl
  have hD := hD.sub (ws' := [(h, .inr (5, [.int th, .ref af, .ref ak, .ref ar, .ref ag, .int le, .int lo, .int da, .ref ad, .ref ac, .ref ab, .int ((f_MO_addFrom 16 ((8 : Int32) * sg) (8 : Int32) th le lo da (u2.1) (u2.2.1) rg).1), .ref ax, .ref aw, .ref an, .ref av, .ref aa])), (ac, .inl (cJ, 64, .inr (.inl kc))), (ab, .inl (cJ, 8, .inr (.inl bg))), (ax, .inl (cJ, 48, .inr (.inl ((f_MO_addFrom 16 ((8 : Int32) * sg) (8 : Int32) th le lo da (u2.1) (u2.2.1) rg).2)))), (aw, .inl (cJ, 64, .inr (.inl (u2.2.2.1)))), (an, .inl (cJ, 8, .inr (.inl (u2.2.2.2.1)))), (av, .inl (cJ, 8, .inr (.inl (u2.2.2.2.2.1)))), (aa, .inl (cI, 8, .inl (u2.2.2.2.2.2))), (af, .inl (cI, 70, .inl fl)), (ag, .inl (cI, 16, .inl rg))]) [7, 0, 1, 8, 2, 3, 4, 5, 6, 9] (by decide) rfl
  generalize H9 = H at hP hS ⊢
  have e0 : (f_MO_fold_c2 sg so th le lo da si kc bg tx wi nw vv aw_ fl rg u1 u2) = f_MO_fold_c3 sg so th le lo da si kc bg tx wi nw vv aw_ fl rg u1 u2 (f_MO_addFrom 16 ((8 : Int32) * sg) (8 : Int32) th le lo da (u2.1) (u2.2.1) rg) := by rw [f_MO_fold_c2]
  rw [e0]
  generalize hu3 : (f_MO_addFrom 16 ((8 : Int32) * sg) (8 : Int32) th le lo da (u2.1) (u2.2.1) rg) = u3 at hP hD ⊢
  have hP : va_P (dC, dI) classes [(h, .inr (5, [.int th, .ref af, .ref ak, .ref ar, .ref ag, .int le, .int lo, .int da, .ref ad, .ref ac, .ref ab, .int (u3.1), .ref ax, .ref aw, .ref an, .ref av, .ref aa])), (ac, .inl (cJ, 64, .inr (.inl kc))), (ab, .inl (cJ, 8, .inr (.inl bg))), (ax, .inl (cJ, 48, .inr (.inl (u3.2)))), (aw, .inl (cJ, 64, .inr (.inl (u2.2.2.1)))), (an, .inl (cJ, 8, .inr (.inl (u2.2.2.2.1)))), (av, .inl (cJ, 8, .inr (.inl (u2.2.2.2.2.1)))), (aa, .inl (cI, 8, .inl (u2.2.2.2.2.2))), (af, .inl (cI, 70, .inl fl)), (ag, .inl (cI, 16, .inl rg))] H := hP
  have hD : va_D A [(h, .inr (5, [.int th, .ref af, .ref ak, .ref ar, .ref ag, .int le, .int lo, .int da, .ref ad, .ref ac, .ref ab, .int (u3.1), .ref ax, .ref aw, .ref an, .ref av, .ref aa])), (ac, .inl (cJ, 64, .inr (.inl kc))), (ab, .inl (cJ, 8, .inr (.inl bg))), (ax, .inl (cJ, 48, .inr (.inl (u3.2)))), (aw, .inl (cJ, 64, .inr (.inl (u2.2.2.1)))), (an, .inl (cJ, 8, .inr (.inl (u2.2.2.2.1)))), (av, .inl (cJ, 8, .inr (.inl (u2.2.2.2.2.1)))), (aa, .inl (cI, 8, .inl (u2.2.2.2.2.2))), (af, .inl (cI, 70, .inl fl)), (ag, .inl (cI, 16, .inl rg))] := hD
  refine lv_aload_n hx hb d_MO_fold_32 rfl (lv_at hl 0 rfl) ?_
  refine lv_aload_n hx hb d_MO_fold_33 rfl (lv_at hl 0 rfl) ?_
  refine va_get (D := (dC, dI)) (ci := 5) (v := .ref aa) (C := R_MO) (T := F_MO) (N := 17) hx hb hts in_MO hown hK hP 0 rfl rfl 16 (by decide) (hts _ gw_534) (fun _ h9 => h9) rfl d_MO_fold_34 ?_
  refine lv_iconst (v := 0) hx hb d_MO_fold_37 (by decide) ?_
  refine lv_bipush (v := 8) hx hb d_MO_fold_38 (by decide) ?_
  have hPc := hP.sub (ws' := [(h, .inr (5, [.int th, .ref af, .ref ak, .ref ar, .ref ag, .int le, .int lo, .int da, .ref ad, .ref ac, .ref ab, .int (u3.1), .ref ax, .ref aw, .ref an, .ref av, .ref aa])), (ax, .inl (cJ, 48, .inr (.inl (u3.2)))), (aa, .inl (cI, 8, .inl (u2.2.2.2.2.2)))]) [0, 3, 7] rfl
  have hDc := hD.sub (ws' := [(h, .inr (5, [.int th, .ref af, .ref ak, .ref ar, .ref ag, .int le, .int lo, .int da, .ref ad, .ref ac, .ref ab, .int (u3.1), .ref ax, .ref aw, .ref an, .ref av, .ref aa])), (ax, .inl (cJ, 48, .inr (.inl (u3.2)))), (aa, .inl (cI, 8, .inl (u2.2.2.2.2.2)))]) [0, 3, 7] (by decide) rfl
  have hFc := va_free (wc := [(h, .inr (5, [.int th, .ref af, .ref ak, .ref ar, .ref ag, .int le, .int lo, .int da, .ref ad, .ref ac, .ref ab, .int (u3.1), .ref ax, .ref aw, .ref an, .ref av, .ref aa])), (ax, .inl (cJ, 48, .inr (.inl (u3.2)))), (aa, .inl (cI, 8, .inl (u2.2.2.2.2.2)))]) hD hS hA [0, 3, 7] rfl
  refine va_callv (va_runV (As := [.ref aa, .int (0 : Int32), .int (8 : Int32)]) (rest := []) ⟨hx, hb, hml, hown, hts⟩ (c_MO_addFrom l dC dI cI cJ h aa af ak ar ag ad ac ab ax aw an av aa _ 8 (0 : Int32) (8 : Int32) th le lo da (u3.1) (u3.2) (u2.2.2.2.2.2) (by rw [← hu3]; exact ad_of (mo_row 0 8 (by rw [← hu2, mo_hash0]; rfl) (by decide)) 8 (by decide)) (fun x h0 h1 => ix_off 0 8 8 h0 h1 rfl (by decide) (by decide))) ⟨callB_of 3 hts (bc_good gw_642) rfl rfl rfl (hts _ gw_6) (hts _ gw_640) (by decide +kernel) ⟨Nat.le_of_ble_eq_true rfl, Nat.le_of_ble_eq_true rfl⟩, (hts _ gw_641), (hts _ gw_722)⟩ ⟨bc_blind, va_recv (q0 := 0) hK hP (q := (R_MO, F_MO, 17)) rfl rfl, fun U hU hW => ⟨rfl, bc_give hPc hDc hK hE hS hFc U hU hW⟩⟩ rfl rfl hl.1 rfl (lv_room (Nat.le_of_ble_eq_true rfl)) d_MO_fold_40 ⟨Nat.le_of_ble_eq_true rfl, Nat.le_of_ble_eq_true rfl⟩) hS (fun q _ h => hFc q h) hFc (fun u t H9 locs ht hvm hp hB hz1 hk1 hS => ?_)
  obtain ⟨hP, hD⟩ := va_join (wr := [(ac, .inl (cJ, 64, .inr (.inl kc))), (ab, .inl (cJ, 8, .inr (.inl bg))), (aw, .inl (cJ, 64, .inr (.inl (u2.2.2.1)))), (an, .inl (cJ, 8, .inr (.inl (u2.2.2.2.1)))), (av, .inl (cJ, 8, .inr (.inl (u2.2.2.2.2.1)))), (af, .inl (cI, 70, .inl fl)), (ag, .inl (cI, 16, .inl rg))]) (w1 := [(h, .inr (5, [.int th, .ref af, .ref ak, .ref ar, .ref ag, .int le, .int lo, .int da, .ref ad, .ref ac, .ref ab, .int ((f_MO_addFrom 8 (0 : Int32) (8 : Int32) th le lo da (u3.1) (u3.2) (u2.2.2.2.2.2)).1), .ref ax, .ref aw, .ref an, .ref av, .ref aa])), (ax, .inl (cJ, 48, .inr (.inl ((f_MO_addFrom 8 (0 : Int32) (8 : Int32) th le lo da (u3.1) (u3.2) (u2.2.2.2.2.2)).2)))), (aa, .inl (cI, 8, .inl (u2.2.2.2.2.2)))]) hP hD [0, 3, 7] [1, 2, 4, 5, 6, 8, 9] rfl rfl (by decide) (by decide) hk1 hFc (ht ▸ hB.1) hB.2.2
  have hP := hP.sub (ws' := [(h, .inr (5, [.int th, .ref af, .ref ak, .ref ar, .ref ag, .int le, .int lo, .int da, .ref ad, .ref ac, .ref ab, .int ((f_MO_addFrom 8 (0 : Int32) (8 : Int32) th le lo da (u3.1) (u3.2) (u2.2.2.2.2.2)).1), .ref ax, .ref aw, .ref an, .ref av, .ref aa])), (ac, .inl (cJ, 64, .inr (.inl kc))), (ab, .inl (cJ, 8, .inr (.inl bg))), (ax, .inl (cJ, 48, .inr (.inl ((f_MO_addFrom 8 (0 : Int32) (8 : Int32) th le lo da (u3.1) (u3.2) (u2.2.2.2.2.2)).2)))), (aw, .inl (cJ, 64, .inr (.inl (u2.2.2.1)))), (an, .inl (cJ, 8, .inr (.inl (u2.2.2.2.1)))), (av, .inl (cJ, 8, .inr (.inl (u2.2.2.2.2.1)))), (aa, .inl (cI, 8, .inl (u2.2.2.2.2.2))), (af, .inl (cI, 70, .inl fl)), (ag, .inl (cI, 16, .inl rg))]) [7, 0, 1, 8, 2, 3, 4, 9, 5, 6] rfl
  have hD := hD.sub (ws' := [(h, .inr (5, [.int th, .ref af, .ref ak, .ref ar, .ref ag, .int le, .int lo, .int da, .ref ad, .ref ac, .ref ab, .int ((f_MO_addFrom 8 (0 : Int32) (8 : Int32) th le lo da (u3.1) (u3.2) (u2.2.2.2.2.2)).1), .ref ax, .ref aw, .ref an, .ref av, .ref aa])), (ac, .inl (cJ, 64, .inr (.inl kc))), (ab, .inl (cJ, 8, .inr (.inl bg))), (ax, .inl (cJ, 48, .inr (.inl ((f_MO_addFrom 8 (0 : Int32) (8 : Int32) th le lo da (u3.1) (u3.2) (u2.2.2.2.2.2)).2)))), (aw, .inl (cJ, 64, .inr (.inl (u2.2.2.1)))), (an, .inl (cJ, 8, .inr (.inl (u2.2.2.2.1)))), (av, .inl (cJ, 8, .inr (.inl (u2.2.2.2.2.1)))), (aa, .inl (cI, 8, .inl (u2.2.2.2.2.2))), (af, .inl (cI, 70, .inl fl)), (ag, .inl (cI, 16, .inl rg))]) [7, 0, 1, 8, 2, 3, 4, 9, 5, 6] (by decide) rfl
  generalize H9 = H at hP hS ⊢
  have e0 : (f_MO_fold_c3 sg so th le lo da si kc bg tx wi nw vv aw_ fl rg u1 u2 u3) = f_MO_fold_c4 sg so th le lo da si kc bg tx wi nw vv aw_ fl rg u1 u2 u3 (f_MO_addFrom 8 (0 : Int32) (8 : Int32) th le lo da (u3.1) (u3.2) (u2.2.2.2.2.2)) := by rw [f_MO_fold_c3]
  rw [e0]
  generalize hu4 : (f_MO_addFrom 8 (0 : Int32) (8 : Int32) th le lo da (u3.1) (u3.2) (u2.2.2.2.2.2)) = u4 at hP hD ⊢
  have hP : va_P (dC, dI) classes [(h, .inr (5, [.int th, .ref af, .ref ak, .ref ar, .ref ag, .int le, .int lo, .int da, .ref ad, .ref ac, .ref ab, .int (u4.1), .ref ax, .ref aw, .ref an, .ref av, .ref aa])), (ac, .inl (cJ, 64, .inr (.inl kc))), (ab, .inl (cJ, 8, .inr (.inl bg))), (ax, .inl (cJ, 48, .inr (.inl (u4.2)))), (aw, .inl (cJ, 64, .inr (.inl (u2.2.2.1)))), (an, .inl (cJ, 8, .inr (.inl (u2.2.2.2.1)))), (av, .inl (cJ, 8, .inr (.inl (u2.2.2.2.2.1)))), (aa, .inl (cI, 8, .inl (u2.2.2.2.2.2))), (af, .inl (cI, 70, .inl fl)), (ag, .inl (cI, 16, .inl rg))] H := hP
  have hD : va_D A [(h, .inr (5, [.int th, .ref af, .ref ak, .ref ar, .ref ag, .int le, .int lo, .int da, .ref ad, .ref ac, .ref ab, .int (u4.1), .ref ax, .ref aw, .ref an, .ref av, .ref aa])), (ac, .inl (cJ, 64, .inr (.inl kc))), (ab, .inl (cJ, 8, .inr (.inl bg))), (ax, .inl (cJ, 48, .inr (.inl (u4.2)))), (aw, .inl (cJ, 64, .inr (.inl (u2.2.2.1)))), (an, .inl (cJ, 8, .inr (.inl (u2.2.2.2.1)))), (av, .inl (cJ, 8, .inr (.inl (u2.2.2.2.2.1)))), (aa, .inl (cI, 8, .inl (u2.2.2.2.2.2))), (af, .inl (cI, 70, .inl fl)), (ag, .inl (cI, 16, .inl rg))] := hD
  refine lv_aload_n hx hb d_MO_fold_43 rfl (lv_at hl 0 rfl) ?_
  have hPc := hP.sub (ws' := [(h, .inr (5, [.int th, .ref af, .ref ak, .ref ar, .ref ag, .int le, .int lo, .int da, .ref ad, .ref ac, .ref ab, .int (u4.1), .ref ax, .ref aw, .ref an, .ref av, .ref aa])), (ac, .inl (cJ, 64, .inr (.inl kc))), (ab, .inl (cJ, 8, .inr (.inl bg))), (ax, .inl (cJ, 48, .inr (.inl (u4.2)))), (aw, .inl (cJ, 64, .inr (.inl (u2.2.2.1)))), (an, .inl (cJ, 8, .inr (.inl (u2.2.2.2.1)))), (av, .inl (cJ, 8, .inr (.inl (u2.2.2.2.2.1)))), (aa, .inl (cI, 8, .inl (u2.2.2.2.2.2)))]) [0, 1, 2, 3, 4, 5, 6, 7] rfl
  have hDc := hD.sub (ws' := [(h, .inr (5, [.int th, .ref af, .ref ak, .ref ar, .ref ag, .int le, .int lo, .int da, .ref ad, .ref ac, .ref ab, .int (u4.1), .ref ax, .ref aw, .ref an, .ref av, .ref aa])), (ac, .inl (cJ, 64, .inr (.inl kc))), (ab, .inl (cJ, 8, .inr (.inl bg))), (ax, .inl (cJ, 48, .inr (.inl (u4.2)))), (aw, .inl (cJ, 64, .inr (.inl (u2.2.2.1)))), (an, .inl (cJ, 8, .inr (.inl (u2.2.2.2.1)))), (av, .inl (cJ, 8, .inr (.inl (u2.2.2.2.2.1)))), (aa, .inl (cI, 8, .inl (u2.2.2.2.2.2)))]) [0, 1, 2, 3, 4, 5, 6, 7] (by decide) rfl
  have hFc := va_free (wc := [(h, .inr (5, [.int th, .ref af, .ref ak, .ref ar, .ref ag, .int le, .int lo, .int da, .ref ad, .ref ac, .ref ab, .int (u4.1), .ref ax, .ref aw, .ref an, .ref av, .ref aa])), (ac, .inl (cJ, 64, .inr (.inl kc))), (ab, .inl (cJ, 8, .inr (.inl bg))), (ax, .inl (cJ, 48, .inr (.inl (u4.2)))), (aw, .inl (cJ, 64, .inr (.inl (u2.2.2.1)))), (an, .inl (cJ, 8, .inr (.inl (u2.2.2.2.1)))), (av, .inl (cJ, 8, .inr (.inl (u2.2.2.2.2.1)))), (aa, .inl (cI, 8, .inl (u2.2.2.2.2.2)))]) hD hS hA [0, 1, 2, 3, 4, 5, 6, 7] rfl
  refine va_callv (va_runV (As := []) (rest := []) ⟨hx, hb, hml, hown, hts⟩ (c_MO_hashText l dC dI cI cJ h af ak ar ag ad ac ab ax aw an av aa _ th le lo da (u4.1) kc bg (u4.2) (u2.2.2.1) (u2.2.2.2.1) (u2.2.2.2.2.1) (u2.2.2.2.2.2) (by rw [← hu4]; exact sz_ok (mo_row 8 8 (by rw [← hu3]; exact mo_row 0 8 (by rw [← hu2, mo_hash0]; rfl) (by decide)) (by decide)) (by decide))) ⟨callB_of 0 hts (bc_good gw_601) rfl rfl rfl (hts _ gw_6) (hts _ gw_599) (by decide +kernel) ⟨Nat.le_of_ble_eq_true rfl, Nat.le_of_ble_eq_true rfl⟩, (hts _ gw_600), (hts _ gw_714)⟩ ⟨bc_blind, va_recv (q0 := 0) hK hP (q := (R_MO, F_MO, 17)) rfl rfl, fun U hU hW => ⟨rfl, bc_give hPc hDc hK hE hS hFc U hU hW⟩⟩ rfl rfl hl.1 rfl (lv_room (Nat.le_of_ble_eq_true rfl)) d_MO_fold_44 ⟨Nat.le_of_ble_eq_true rfl, Nat.le_of_ble_eq_true rfl⟩) hS (fun q _ h => hFc q h) hFc (fun u t H9 locs ht hvm hp hB hz1 hk1 hS => ?_)
  obtain ⟨hP, hD⟩ := va_join (wr := [(af, .inl (cI, 70, .inl fl)), (ag, .inl (cI, 16, .inl rg))]) (w1 := [(h, .inr (5, [.int th, .ref af, .ref ak, .ref ar, .ref ag, .int le, .int lo, .int da, .ref ad, .ref ac, .ref ab, .int ((f_MO_hashText th le lo da (u4.1) kc bg (u4.2) (u2.2.2.1) (u2.2.2.2.1) (u2.2.2.2.2.1) (u2.2.2.2.2.2)).1), .ref ax, .ref aw, .ref an, .ref av, .ref aa])), (ac, .inl (cJ, 64, .inr (.inl kc))), (ab, .inl (cJ, 8, .inr (.inl bg))), (ax, .inl (cJ, 48, .inr (.inl ((f_MO_hashText th le lo da (u4.1) kc bg (u4.2) (u2.2.2.1) (u2.2.2.2.1) (u2.2.2.2.2.1) (u2.2.2.2.2.2)).2.1)))), (aw, .inl (cJ, 64, .inr (.inl ((f_MO_hashText th le lo da (u4.1) kc bg (u4.2) (u2.2.2.1) (u2.2.2.2.1) (u2.2.2.2.2.1) (u2.2.2.2.2.2)).2.2.1)))), (an, .inl (cJ, 8, .inr (.inl ((f_MO_hashText th le lo da (u4.1) kc bg (u4.2) (u2.2.2.1) (u2.2.2.2.1) (u2.2.2.2.2.1) (u2.2.2.2.2.2)).2.2.2.1)))), (av, .inl (cJ, 8, .inr (.inl ((f_MO_hashText th le lo da (u4.1) kc bg (u4.2) (u2.2.2.1) (u2.2.2.2.1) (u2.2.2.2.2.1) (u2.2.2.2.2.2)).2.2.2.2.1)))), (aa, .inl (cI, 8, .inl ((f_MO_hashText th le lo da (u4.1) kc bg (u4.2) (u2.2.2.1) (u2.2.2.2.1) (u2.2.2.2.2.1) (u2.2.2.2.2.2)).2.2.2.2.2)))]) hP hD [0, 1, 2, 3, 4, 5, 6, 7] [8, 9] rfl rfl (by decide) (by decide) hk1 hFc (ht ▸ hB.1) hB.2.2
  have hP := hP.sub (ws' := [(h, .inr (5, [.int th, .ref af, .ref ak, .ref ar, .ref ag, .int le, .int lo, .int da, .ref ad, .ref ac, .ref ab, .int ((f_MO_hashText th le lo da (u4.1) kc bg (u4.2) (u2.2.2.1) (u2.2.2.2.1) (u2.2.2.2.2.1) (u2.2.2.2.2.2)).1), .ref ax, .ref aw, .ref an, .ref av, .ref aa])), (ac, .inl (cJ, 64, .inr (.inl kc))), (ab, .inl (cJ, 8, .inr (.inl bg))), (ax, .inl (cJ, 48, .inr (.inl ((f_MO_hashText th le lo da (u4.1) kc bg (u4.2) (u2.2.2.1) (u2.2.2.2.1) (u2.2.2.2.2.1) (u2.2.2.2.2.2)).2.1)))), (aw, .inl (cJ, 64, .inr (.inl ((f_MO_hashText th le lo da (u4.1) kc bg (u4.2) (u2.2.2.1) (u2.2.2.2.1) (u2.2.2.2.2.1) (u2.2.2.2.2.2)).2.2.1)))), (an, .inl (cJ, 8, .inr (.inl ((f_MO_hashText th le lo da (u4.1) kc bg (u4.2) (u2.2.2.1) (u2.2.2.2.1) (u2.2.2.2.2.1) (u2.2.2.2.2.2)).2.2.2.1)))), (av, .inl (cJ, 8, .inr (.inl ((f_MO_hashText th le lo da (u4.1) kc bg (u4.2) (u2.2.2.1) (u2.2.2.2.1) (u2.2.2.2.2.1) (u2.2.2.2.2.2)).2.2.2.2.1)))), (aa, .inl (cI, 8, .inl ((f_MO_hashText th le lo da (u4.1) kc bg (u4.2) (u2.2.2.1) (u2.2.2.2.1) (u2.2.2.2.2.1) (u2.2.2.2.2.2)).2.2.2.2.2))), (af, .inl (cI, 70, .inl fl)), (ag, .inl (cI, 16, .inl rg))]) [2, 3, 4, 5, 6, 7, 8, 9, 0, 1] rfl
  have hD := hD.sub (ws' := [(h, .inr (5, [.int th, .ref af, .ref ak, .ref ar, .ref ag, .int le, .int lo, .int da, .ref ad, .ref ac, .ref ab, .int ((f_MO_hashText th le lo da (u4.1) kc bg (u4.2) (u2.2.2.1) (u2.2.2.2.1) (u2.2.2.2.2.1) (u2.2.2.2.2.2)).1), .ref ax, .ref aw, .ref an, .ref av, .ref aa])), (ac, .inl (cJ, 64, .inr (.inl kc))), (ab, .inl (cJ, 8, .inr (.inl bg))), (ax, .inl (cJ, 48, .inr (.inl ((f_MO_hashText th le lo da (u4.1) kc bg (u4.2) (u2.2.2.1) (u2.2.2.2.1) (u2.2.2.2.2.1) (u2.2.2.2.2.2)).2.1)))), (aw, .inl (cJ, 64, .inr (.inl ((f_MO_hashText th le lo da (u4.1) kc bg (u4.2) (u2.2.2.1) (u2.2.2.2.1) (u2.2.2.2.2.1) (u2.2.2.2.2.2)).2.2.1)))), (an, .inl (cJ, 8, .inr (.inl ((f_MO_hashText th le lo da (u4.1) kc bg (u4.2) (u2.2.2.1) (u2.2.2.2.1) (u2.2.2.2.2.1) (u2.2.2.2.2.2)).2.2.2.1)))), (av, .inl (cJ, 8, .inr (.inl ((f_MO_hashText th le lo da (u4.1) kc bg (u4.2) (u2.2.2.1) (u2.2.2.2.1) (u2.2.2.2.2.1) (u2.2.2.2.2.2)).2.2.2.2.1)))), (aa, .inl (cI, 8, .inl ((f_MO_hashText th le lo da (u4.1) kc bg (u4.2) (u2.2.2.1) (u2.2.2.2.1) (u2.2.2.2.2.1) (u2.2.2.2.2.2)).2.2.2.2.2))), (af, .inl (cI, 70, .inl fl)), (ag, .inl (cI, 16, .inl rg))]) [2, 3, 4, 5, 6, 7, 8, 9, 0, 1] (by decide) rfl
  generalize H9 = H at hP hS ⊢
  have e0 : (f_MO_fold_c4 sg so th le lo da si kc bg tx wi nw vv aw_ fl rg u1 u2 u3 u4) = f_MO_fold_c5 sg so th le lo da si kc bg tx wi nw vv aw_ fl rg u1 u2 u3 u4 (f_MO_hashText th le lo da (u4.1) kc bg (u4.2) (u2.2.2.1) (u2.2.2.2.1) (u2.2.2.2.2.1) (u2.2.2.2.2.2)) := by rw [f_MO_fold_c4]
  rw [e0]
  generalize hu5 : (f_MO_hashText th le lo da (u4.1) kc bg (u4.2) (u2.2.2.1) (u2.2.2.2.1) (u2.2.2.2.2.1) (u2.2.2.2.2.2)) = u5 at hP hD ⊢
  have hP : va_P (dC, dI) classes [(h, .inr (5, [.int th, .ref af, .ref ak, .ref ar, .ref ag, .int le, .int lo, .int da, .ref ad, .ref ac, .ref ab, .int (u5.1), .ref ax, .ref aw, .ref an, .ref av, .ref aa])), (ac, .inl (cJ, 64, .inr (.inl kc))), (ab, .inl (cJ, 8, .inr (.inl bg))), (ax, .inl (cJ, 48, .inr (.inl (u5.2.1)))), (aw, .inl (cJ, 64, .inr (.inl (u5.2.2.1)))), (an, .inl (cJ, 8, .inr (.inl (u5.2.2.2.1)))), (av, .inl (cJ, 8, .inr (.inl (u5.2.2.2.2.1)))), (aa, .inl (cI, 8, .inl (u5.2.2.2.2.2))), (af, .inl (cI, 70, .inl fl)), (ag, .inl (cI, 16, .inl rg))] H := hP
  have hD : va_D A [(h, .inr (5, [.int th, .ref af, .ref ak, .ref ar, .ref ag, .int le, .int lo, .int da, .ref ad, .ref ac, .ref ab, .int (u5.1), .ref ax, .ref aw, .ref an, .ref av, .ref aa])), (ac, .inl (cJ, 64, .inr (.inl kc))), (ab, .inl (cJ, 8, .inr (.inl bg))), (ax, .inl (cJ, 48, .inr (.inl (u5.2.1)))), (aw, .inl (cJ, 64, .inr (.inl (u5.2.2.1)))), (an, .inl (cJ, 8, .inr (.inl (u5.2.2.2.1)))), (av, .inl (cJ, 8, .inr (.inl (u5.2.2.2.2.1)))), (aa, .inl (cI, 8, .inl (u5.2.2.2.2.2))), (af, .inl (cI, 70, .inl fl)), (ag, .inl (cI, 16, .inl rg))] := hD
  refine lv_iconst (v := 0) hx hb d_MO_fold_47 (by decide) ?_
  refine lv_istore_n (lv' := [(3, .int (0 : Int32)), (0, .ref h), (1, .int sg), (2, .int so)]) hx hb d_MO_fold_48 rfl hl (by decide) rfl (fun ls hl => ?_)
  have e0 : (f_MO_fold_c5 sg so th le lo da si kc bg tx wi nw vv aw_ fl rg u1 u2 u3 u4 u5) = f_MO_fold_49 sg so th le lo da si kc bg tx wi nw vv aw_ fl rg 9 (0 : Int32) (u5.1) (u5.2.1) (u5.2.2.1) (u5.2.2.2.1) (u5.2.2.2.2.1) (u5.2.2.2.2.2) rg := by rw [f_MO_fold_c5]
  rw [e0]
  exact lp_49 9 (0 : Int32) (u5.1) (u5.2.1) (u5.2.2.1) (u5.2.2.2.1) (u5.2.2.2.2.1) (u5.2.2.2.2.2) rg _ _ ls ⟨by decide, by decide⟩ (by decide) (lv_sub hl [1, 2, 0] rfl) hP hD hS
-- MO_runs
theorem d_MO_runs_0 : decode prog_8_method_31_code 0 = .ok (.aload_n 0, 1) := by decide +kernel
theorem d_MO_runs_1 : decode prog_8_method_31_code 1 = .ok (.iconst 0, 1) := by decide +kernel
theorem d_MO_runs_2 : decode prog_8_method_31_code 2 = .ok (.putfield 195, 3) := by decide +kernel
theorem d_MO_runs_5 : decode prog_8_method_31_code 5 = .ok (.iload_n 1, 1) := by decide +kernel
theorem d_MO_runs_6 : decode prog_8_method_31_code 6 = .ok (.iconst 2, 1) := by decide +kernel
theorem d_MO_runs_7 : decode prog_8_method_31_code 7 = .ok (.invokestatic 256, 3) := by decide +kernel
theorem d_MO_runs_10 : decode prog_8_method_31_code 10 = .ok (.ifCond .eq 9, 3) := by decide +kernel
theorem d_MO_runs_13 : decode prog_8_method_31_code 13 = .ok (.aload_n 0, 1) := by decide +kernel
theorem d_MO_runs_14 : decode prog_8_method_31_code 14 = .ok (.iconst 1, 1) := by decide +kernel
theorem d_MO_runs_15 : decode prog_8_method_31_code 15 = .ok (.invokevirtual 281, 3) := by decide +kernel
theorem d_MO_runs_18 : decode prog_8_method_31_code 18 = .ok (.ireturn, 1) := by decide +kernel
theorem d_MO_runs_19 : decode prog_8_method_31_code 19 = .ok (.aload_n 0, 1) := by decide +kernel
theorem d_MO_runs_20 : decode prog_8_method_31_code 20 = .ok (.getfield 16, 3) := by decide +kernel
theorem d_MO_runs_23 : decode prog_8_method_31_code 23 = .ok (.iload_n 1, 1) := by decide +kernel
theorem d_MO_runs_24 : decode prog_8_method_31_code 24 = .ok (.iaload, 1) := by decide +kernel
theorem d_MO_runs_25 : decode prog_8_method_31_code 25 = .ok (.ifCond .ge 7, 3) := by decide +kernel
theorem d_MO_runs_28 : decode prog_8_method_31_code 28 = .ok (.iconst (-1), 1) := by decide +kernel
theorem d_MO_runs_29 : decode prog_8_method_31_code 29 = .ok (.goto 13, 3) := by decide +kernel
theorem d_MO_runs_32 : decode prog_8_method_31_code 32 = .ok (.iconst 2, 1) := by decide +kernel
theorem d_MO_runs_33 : decode prog_8_method_31_code 33 = .ok (.iload_n 1, 1) := by decide +kernel
theorem d_MO_runs_34 : decode prog_8_method_31_code 34 = .ok (.imul, 1) := by decide +kernel
theorem d_MO_runs_35 : decode prog_8_method_31_code 35 = .ok (.aload_n 0, 1) := by decide +kernel
theorem d_MO_runs_36 : decode prog_8_method_31_code 36 = .ok (.getfield 16, 3) := by decide +kernel
theorem d_MO_runs_39 : decode prog_8_method_31_code 39 = .ok (.iload_n 1, 1) := by decide +kernel
theorem d_MO_runs_40 : decode prog_8_method_31_code 40 = .ok (.iaload, 1) := by decide +kernel
theorem d_MO_runs_41 : decode prog_8_method_31_code 41 = .ok (.iadd, 1) := by decide +kernel
theorem d_MO_runs_42 : decode prog_8_method_31_code 42 = .ok (.ireturn, 1) := by decide +kernel
def y_MO_runs : MethodName := ⟨"BootChainModel", "runs", "(I)I"⟩
def ws_MO_runs : List Cond := .code y_MO_runs prog_8_method_31_code 2 (some .int) :: bc_G
def f_MO_runs_c1 (sg : Int32) (th : Int32) (le : Int32) (lo : Int32) (da : Int32) (si : Int32) (rn : Nat → Int32) (u1 : Int32 × Int32) : Int32 × Int32 := ((u1.1), (u1.2))
def f_MO_runs (sg : Int32) (th : Int32) (le : Int32) (lo : Int32) (da : Int32) (si : Int32) (rn : Nat → Int32) : Int32 × Int32 := if (f_MO_out sg (2 : Int32)) = 0 then if 0 ≤ (rn (sg).toNatClampNeg) then ((((2 : Int32) * sg) + (rn (sg).toNatClampNeg)), (0 : Int32)) else ((-1 : Int32), (0 : Int32)) else f_MO_runs_c1 sg th le lo da si rn (f_MO_fail (1 : Int32) (0 : Int32) le lo da si)
set_option maxHeartbeats 4000000 in
set_option maxRecDepth 100000 in
theorem c_MO_runs (l : Launch) (dC : Nat → ClassId) (dI : Nat → Nat → Nat) (cI cJ : ClassId) (h af ak ar ag ad ac ab ax aw an av aa : Nat) (sz : Nat) (sg : Int32) (th : Int32) (le : Int32) (lo : Int32) (da : Int32) (si : Int32) (rn : Nat → Int32) : Met l y_MO_runs ws_MO_runs ({ frames := 1, cells := 0, slots := 0, locals := 21 } : Room) (va_Pc [.ref h, .int sg] (bc_pre (dC, dI) cI cJ [(h, .inr (5, [.int th, .ref af, .ref ak, .ref ar, .ref ag, .int le, .int lo, .int da, .ref ad, .ref ac, .ref ab, .int si, .ref ax, .ref aw, .ref an, .ref av, .ref aa])), (ar, .inl (cI, 2, .inl rn))] sz)) (va_Qi (fun (r : Int32) (_ : Unit) => r = (f_MO_runs sg th le lo da si rn).1) (fun _ => bc_post (dC, dI) cI cJ (va_A [(h, .inr (5, [.int th, .ref af, .ref ak, .ref ar, .ref ag, .int le, .int lo, .int da, .ref ad, .ref ac, .ref ab, .int si, .ref ax, .ref aw, .ref an, .ref av, .ref aa])), (ar, .inl (cI, 2, .inl rn))] sz) [(h, .inr (5, [.int (f_MO_runs sg th le lo da si rn).2, .ref af, .ref ak, .ref ar, .ref ag, .int le, .int lo, .int da, .ref ad, .ref ac, .ref ab, .int si, .ref ax, .ref aw, .ref an, .ref av, .ref aa])), (ar, .inl (cI, 2, .inl rn))]) (va_A [(h, .inr (5, [.int th, .ref af, .ref ak, .ref ar, .ref ag, .int le, .int lo, .int da, .ref ad, .ref ac, .ref ab, .int si, .ref ax, .ref aw, .ref an, .ref av, .ref aa])), (ar, .inl (cI, 2, .inl rn))] sz)) 0 0 (va_A [(h, .inr (5, [.int th, .ref af, .ref ak, .ref ar, .ref ag, .int le, .int lo, .int da, .ref ad, .ref ac, .ref ab, .int si, .ref ax, .ref aw, .ref an, .ref av, .ref aa])), (ar, .inl (cI, 2, .inl rn))] sz) := by
  refine Met.ofW (cc := prog_8_method_31_code) (maxL := 2) (ret := (some .int)) (by decide) rfl ?_
  intro p e s m args below meth c s₁ B hml hv
  obtain ⟨rfl, hsz, hP, hK, hD0, hE⟩ := hv
  have hx := B.exec
  have hb := B.bytes
  have hr := B.returns
  have hts : ∀ w ∈ bc_G, w.before ([.ref h, .int sg] : List Value).toArray s = true := fun w h => atoms_spec (ws := ws_MO_runs) B.pre w (List.mem_cons_of_mem _ h)
  have hown : s.vm.findClass "BootChainModel" = some m.cls := findClass_of_methodNamed B.named
  have hlocks := B.notSynchronized
  subst hsz
  have hD := hD0.self (sz := s.heap.size)
  generalize hAe : va_A [(h, .inr (5, [.int th, .ref af, .ref ak, .ref ar, .ref ag, .int le, .int lo, .int da, .ref ad, .ref ac, .ref ab, .int si, .ref ax, .ref aw, .ref an, .ref av, .ref aa])), (ar, .inl (cI, 2, .inl rn))] s.heap.size = A at hD hE ⊢
  have hA : ∀ q : Nat, s.heap.size ≤ q → A q := fun q h => by rw [← hAe]; exact Or.inr h
  have hS : va_S A s.heap s.heap [] := va_S.rf
  have hl := lv_entry ([.ref h, .int sg]) (n := 2) (Nat.le_of_ble_eq_true rfl)
  rw [lg_entry_eq]
  generalize (lg_sl ([.ref h, .int sg]) ++ List.replicate (2 - (lg_sl ([.ref h, .int sg])).length) Slot.unset).toArray = ls at hl ⊢
  have hl : lv_has ls 2 [(0, .ref h), (1, .int sg)] := hl
  refine lv_aload_n hx hb d_MO_runs_0 rfl (lv_at hl 0 rfl) ?_
  refine lv_iconst (v := 0) hx hb d_MO_runs_1 (by decide) ?_
  refine va_put (D := (dC, dI)) (ci := 5) (v := .int (0 : Int32)) (ty := .int) (C := R_MO) (T := F_MO) (N := 17) hx hb hts in_MO t_MO t_MO_ok n_MO hown hK hP hD hS 0 rfl rfl 0 (by decide) (hts _ gw_518) (fun _ h9 => h9) rfl (by decide +kernel) rfl rfl (Nat.le_of_ble_eq_true rfl) d_MO_runs_2 (fun H locs hP hD hS => ?_)
  have hP : va_P (dC, dI) classes [(h, .inr (5, [.int (0 : Int32), .ref af, .ref ak, .ref ar, .ref ag, .int le, .int lo, .int da, .ref ad, .ref ac, .ref ab, .int si, .ref ax, .ref aw, .ref an, .ref av, .ref aa])), (ar, .inl (cI, 2, .inl rn))] H := hP
  have hD : va_D A [(h, .inr (5, [.int (0 : Int32), .ref af, .ref ak, .ref ar, .ref ag, .int le, .int lo, .int da, .ref ad, .ref ac, .ref ab, .int si, .ref ax, .ref aw, .ref an, .ref av, .ref aa])), (ar, .inl (cI, 2, .inl rn))] := hD
  refine lv_iload_n hx hb d_MO_runs_5 rfl (lv_at hl 1 rfl) ?_
  refine lv_iconst (v := 2) hx hb d_MO_runs_6 (by decide) ?_
  have hPc := hP.sub (ws' := []) [] rfl
  have hDc := hD.sub (ws' := []) [] (by decide) rfl
  have hFc := va_free (wc := []) hD hS hA [] rfl
  refine va_calli (va_runS (As := [.int sg, .int (2 : Int32)]) (rest := []) ⟨hx, hb, hml, hown, hts⟩ (c_MO_out l dC dI cI cJ _ sg (2 : Int32)) ⟨callB_of 2 hts (bc_good gw_569) rfl rfl rfl (hts _ gw_6) (hts _ gw_567) (by decide +kernel) ⟨Nat.le_of_ble_eq_true rfl, Nat.le_of_ble_eq_true rfl⟩, (hts _ gw_568)⟩ ⟨bc_blind, fun U hU hW => ⟨rfl, bc_give hPc hDc hK hE hS hFc U hU hW⟩⟩ rfl rfl hl.1 rfl (lv_room (Nat.le_of_ble_eq_true rfl)) d_MO_runs_7 ⟨Nat.le_of_ble_eq_true rfl, Nat.le_of_ble_eq_true rfl⟩) hS (fun q _ h => hFc q h) hFc (fun r u t H9 locs ht hvm hp hB hz1 hk1 hS => ?_)
  subst hp
  obtain ⟨hP, hD⟩ := va_join (wr := [(h, .inr (5, [.int (0 : Int32), .ref af, .ref ak, .ref ar, .ref ag, .int le, .int lo, .int da, .ref ad, .ref ac, .ref ab, .int si, .ref ax, .ref aw, .ref an, .ref av, .ref aa])), (ar, .inl (cI, 2, .inl rn))]) (w1 := []) hP hD [] [0, 1] rfl rfl (by decide) (by decide) hk1 hFc (ht ▸ hB.1) hB.2.2
  have hP := hP.sub (ws' := [(h, .inr (5, [.int (0 : Int32), .ref af, .ref ak, .ref ar, .ref ag, .int le, .int lo, .int da, .ref ad, .ref ac, .ref ab, .int si, .ref ax, .ref aw, .ref an, .ref av, .ref aa])), (ar, .inl (cI, 2, .inl rn))]) [0, 1] rfl
  have hD := hD.sub (ws' := [(h, .inr (5, [.int (0 : Int32), .ref af, .ref ak, .ref ar, .ref ag, .int le, .int lo, .int da, .ref ad, .ref ac, .ref ab, .int si, .ref ax, .ref aw, .ref an, .ref av, .ref aa])), (ar, .inl (cI, 2, .inl rn))]) [0, 1] (by decide) rfl
  generalize H9 = H at hP hS ⊢
  refine lv_if_eq (tgt := 19) hx hb d_MO_runs_10 (by decide) (fun h3 => ?_) (fun h3 => ?_)
  · refine lv_aload_n hx hb d_MO_runs_19 rfl (lv_at hl 0 rfl) ?_
    refine va_get (D := (dC, dI)) (ci := 5) (v := .ref ar) (C := R_MO) (T := F_MO) (N := 17) hx hb hts in_MO hown hK hP 0 rfl rfl 3 (by decide) (hts _ gw_521) (fun _ h9 => h9) rfl d_MO_runs_20 ?_
    refine lv_iload_n hx hb d_MO_runs_23 rfl (lv_at hl 1 rfl) ?_
    refine va_iald hx hb hK hP 1 0 rfl rfl (by exact ix_st (out2 (by assumption))) d_MO_runs_24 ?_
    refine lv_if_ge (tgt := 32) hx hb d_MO_runs_25 (by decide) (fun h4 => ?_) (fun h4 => ?_)
    · refine lv_iconst (v := 2) hx hb d_MO_runs_32 (by decide) ?_
      refine lv_iload_n hx hb d_MO_runs_33 rfl (lv_at hl 1 rfl) ?_
      refine lv_imul hx hb d_MO_runs_34 ?_
      refine lv_aload_n hx hb d_MO_runs_35 rfl (lv_at hl 0 rfl) ?_
      refine va_get (D := (dC, dI)) (ci := 5) (v := .ref ar) (C := R_MO) (T := F_MO) (N := 17) hx hb hts in_MO hown hK hP 0 rfl rfl 3 (by decide) (hts _ gw_521) (fun _ h9 => h9) rfl d_MO_runs_36 ?_
      refine lv_iload_n hx hb d_MO_runs_39 rfl (lv_at hl 1 rfl) ?_
      refine va_iald hx hb hK hP 1 0 rfl rfl (by exact ix_st (out2 (by assumption))) d_MO_runs_40 ?_
      refine lv_iadd hx hb d_MO_runs_41 ?_
      have e0 : (f_MO_runs sg th le lo da si rn) = ((((2 : Int32) * sg) + (rn (sg).toNatClampNeg)), (0 : Int32)) := by rw [f_MO_runs, if_pos h3, if_pos h4]
      rw [e0]
      exact W.iret (v := (((2 : Int32) * sg) + (rn (sg).toNatClampNeg))) hx hb hr (fun t ht hW => ⟨⟨(((2 : Int32) * sg) + (rn (sg).toNatClampNeg)), (), rfl, rfl, by rw [ht]; exact hP, va_K.moved hW.alike hK, hD⟩, hS.F ht⟩) hS.2.2 d_MO_runs_42
    · refine lv_iconst (v := (-1)) hx hb d_MO_runs_28 (by decide) ?_
      refine lv_goto (tgt := 42) hx hb d_MO_runs_29 (by decide) ?_
      have e0 : (f_MO_runs sg th le lo da si rn) = ((-1 : Int32), (0 : Int32)) := by rw [f_MO_runs, if_pos h3, if_neg h4]
      rw [e0]
      exact W.iret (v := (-1 : Int32)) hx hb hr (fun t ht hW => ⟨⟨(-1 : Int32), (), rfl, rfl, by rw [ht]; exact hP, va_K.moved hW.alike hK, hD⟩, hS.F ht⟩) hS.2.2 d_MO_runs_42
  · refine lv_aload_n hx hb d_MO_runs_13 rfl (lv_at hl 0 rfl) ?_
    refine lv_iconst (v := 1) hx hb d_MO_runs_14 (by decide) ?_
    have hPc := hP.sub (ws' := [(h, .inr (5, [.int (0 : Int32), .ref af, .ref ak, .ref ar, .ref ag, .int le, .int lo, .int da, .ref ad, .ref ac, .ref ab, .int si, .ref ax, .ref aw, .ref an, .ref av, .ref aa]))]) [0] rfl
    have hDc := hD.sub (ws' := [(h, .inr (5, [.int (0 : Int32), .ref af, .ref ak, .ref ar, .ref ag, .int le, .int lo, .int da, .ref ad, .ref ac, .ref ab, .int si, .ref ax, .ref aw, .ref an, .ref av, .ref aa]))]) [0] (by decide) rfl
    have hFc := va_free (wc := [(h, .inr (5, [.int (0 : Int32), .ref af, .ref ak, .ref ar, .ref ag, .int le, .int lo, .int da, .ref ad, .ref ac, .ref ab, .int si, .ref ax, .ref aw, .ref an, .ref av, .ref aa]))]) hD hS hA [0] rfl
    refine va_calli (va_runV (As := [.int (1 : Int32)]) (rest := []) ⟨hx, hb, hml, hown, hts⟩ (c_MO_fail l dC dI cI cJ h af ak ar ag ad ac ab ax aw an av aa _ (1 : Int32) (0 : Int32) le lo da si) ⟨callB_of 1 hts (bc_good gw_618) rfl rfl rfl (hts _ gw_6) (hts _ gw_616) (by decide +kernel) ⟨Nat.le_of_ble_eq_true rfl, Nat.le_of_ble_eq_true rfl⟩, (hts _ gw_617), (hts _ gw_717)⟩ ⟨bc_blind, va_recv (q0 := 0) hK hP (q := (R_MO, F_MO, 17)) rfl rfl, fun U hU hW => ⟨rfl, bc_give hPc hDc hK hE hS hFc U hU hW⟩⟩ rfl rfl hl.1 rfl (lv_room (Nat.le_of_ble_eq_true rfl)) d_MO_runs_15 ⟨Nat.le_of_ble_eq_true rfl, Nat.le_of_ble_eq_true rfl⟩) hS (fun q _ h => hFc q h) hFc (fun r u t H9 locs ht hvm hp hB hz1 hk1 hS => ?_)
    subst hp
    obtain ⟨hP, hD⟩ := va_join (wr := [(ar, .inl (cI, 2, .inl rn))]) (w1 := [(h, .inr (5, [.int ((f_MO_fail (1 : Int32) (0 : Int32) le lo da si).2), .ref af, .ref ak, .ref ar, .ref ag, .int le, .int lo, .int da, .ref ad, .ref ac, .ref ab, .int si, .ref ax, .ref aw, .ref an, .ref av, .ref aa]))]) hP hD [0] [1] rfl rfl (by decide) (by decide) hk1 hFc (ht ▸ hB.1) hB.2.2
    have hP := hP.sub (ws' := [(h, .inr (5, [.int ((f_MO_fail (1 : Int32) (0 : Int32) le lo da si).2), .ref af, .ref ak, .ref ar, .ref ag, .int le, .int lo, .int da, .ref ad, .ref ac, .ref ab, .int si, .ref ax, .ref aw, .ref an, .ref av, .ref aa])), (ar, .inl (cI, 2, .inl rn))]) [1, 0] rfl
    have hD := hD.sub (ws' := [(h, .inr (5, [.int ((f_MO_fail (1 : Int32) (0 : Int32) le lo da si).2), .ref af, .ref ak, .ref ar, .ref ag, .int le, .int lo, .int da, .ref ad, .ref ac, .ref ab, .int si, .ref ax, .ref aw, .ref an, .ref av, .ref aa])), (ar, .inl (cI, 2, .inl rn))]) [1, 0] (by decide) rfl
    generalize H9 = H at hP hS ⊢
    have e0 : (f_MO_runs sg th le lo da si rn) = f_MO_runs_c1 sg th le lo da si rn (f_MO_fail (1 : Int32) (0 : Int32) le lo da si) := by rw [f_MO_runs, if_neg h3]
    rw [e0]
    generalize hu1 : (f_MO_fail (1 : Int32) (0 : Int32) le lo da si) = u1 at hP hD ⊢
    have hP : va_P (dC, dI) classes [(h, .inr (5, [.int (u1.2), .ref af, .ref ak, .ref ar, .ref ag, .int le, .int lo, .int da, .ref ad, .ref ac, .ref ab, .int si, .ref ax, .ref aw, .ref an, .ref av, .ref aa])), (ar, .inl (cI, 2, .inl rn))] H := hP
    have hD : va_D A [(h, .inr (5, [.int (u1.2), .ref af, .ref ak, .ref ar, .ref ag, .int le, .int lo, .int da, .ref ad, .ref ac, .ref ab, .int si, .ref ax, .ref aw, .ref an, .ref av, .ref aa])), (ar, .inl (cI, 2, .inl rn))] := hD
    have e0 : (f_MO_runs_c1 sg th le lo da si rn u1) = ((u1.1), (u1.2)) := by rw [f_MO_runs_c1]
    rw [e0]
    exact W.iret (v := (u1.1)) hx hb hr (fun t ht hW => ⟨⟨(u1.1), (), rfl, rfl, by rw [ht]; exact hP, va_K.moved hW.alike hK, hD⟩, hS.F ht⟩) hS.2.2 d_MO_runs_18
-- MO_counter
theorem d_MO_counter_0 : decode prog_8_method_36_code 0 = .ok (.aload_n 0, 1) := by decide +kernel
theorem d_MO_counter_1 : decode prog_8_method_36_code 1 = .ok (.iconst 0, 1) := by decide +kernel
theorem d_MO_counter_2 : decode prog_8_method_36_code 2 = .ok (.putfield 195, 3) := by decide +kernel
theorem d_MO_counter_5 : decode prog_8_method_36_code 5 = .ok (.iload_n 1, 1) := by decide +kernel
theorem d_MO_counter_6 : decode prog_8_method_36_code 6 = .ok (.iconst 2, 1) := by decide +kernel
theorem d_MO_counter_7 : decode prog_8_method_36_code 7 = .ok (.invokestatic 256, 3) := by decide +kernel
theorem d_MO_counter_10 : decode prog_8_method_36_code 10 = .ok (.ifCond .eq 11, 3) := by decide +kernel
theorem d_MO_counter_13 : decode prog_8_method_36_code 13 = .ok (.aload_n 0, 1) := by decide +kernel
theorem d_MO_counter_14 : decode prog_8_method_36_code 14 = .ok (.iconst 1, 1) := by decide +kernel
theorem d_MO_counter_15 : decode prog_8_method_36_code 15 = .ok (.invokevirtual 281, 3) := by decide +kernel
theorem d_MO_counter_18 : decode prog_8_method_36_code 18 = .ok (.goto 9, 3) := by decide +kernel
theorem d_MO_counter_21 : decode prog_8_method_36_code 21 = .ok (.aload_n 0, 1) := by decide +kernel
theorem d_MO_counter_22 : decode prog_8_method_36_code 22 = .ok (.getfield 13, 3) := by decide +kernel
theorem d_MO_counter_25 : decode prog_8_method_36_code 25 = .ok (.iload_n 1, 1) := by decide +kernel
theorem d_MO_counter_26 : decode prog_8_method_36_code 26 = .ok (.iaload, 1) := by decide +kernel
theorem d_MO_counter_27 : decode prog_8_method_36_code 27 = .ok (.ireturn, 1) := by decide +kernel
def y_MO_counter : MethodName := ⟨"BootChainModel", "counter", "(I)I"⟩
def ws_MO_counter : List Cond := .code y_MO_counter prog_8_method_36_code 2 (some .int) :: bc_G
def f_MO_counter_c1 (sg : Int32) (th : Int32) (le : Int32) (lo : Int32) (da : Int32) (si : Int32) (cn : Nat → Int32) (u1 : Int32 × Int32) : Int32 × Int32 := ((u1.1), (u1.2))
def f_MO_counter (sg : Int32) (th : Int32) (le : Int32) (lo : Int32) (da : Int32) (si : Int32) (cn : Nat → Int32) : Int32 × Int32 := if (f_MO_out sg (2 : Int32)) = 0 then ((cn (sg).toNatClampNeg), (0 : Int32)) else f_MO_counter_c1 sg th le lo da si cn (f_MO_fail (1 : Int32) (0 : Int32) le lo da si)
set_option maxHeartbeats 4000000 in
set_option maxRecDepth 100000 in
theorem c_MO_counter (l : Launch) (dC : Nat → ClassId) (dI : Nat → Nat → Nat) (cI cJ : ClassId) (h af ak ar ag ad ac ab ax aw an av aa : Nat) (sz : Nat) (sg : Int32) (th : Int32) (le : Int32) (lo : Int32) (da : Int32) (si : Int32) (cn : Nat → Int32) : Met l y_MO_counter ws_MO_counter ({ frames := 1, cells := 0, slots := 0, locals := 21 } : Room) (va_Pc [.ref h, .int sg] (bc_pre (dC, dI) cI cJ [(h, .inr (5, [.int th, .ref af, .ref ak, .ref ar, .ref ag, .int le, .int lo, .int da, .ref ad, .ref ac, .ref ab, .int si, .ref ax, .ref aw, .ref an, .ref av, .ref aa])), (ak, .inl (cI, 2, .inl cn))] sz)) (va_Qi (fun (r : Int32) (_ : Unit) => r = (f_MO_counter sg th le lo da si cn).1) (fun _ => bc_post (dC, dI) cI cJ (va_A [(h, .inr (5, [.int th, .ref af, .ref ak, .ref ar, .ref ag, .int le, .int lo, .int da, .ref ad, .ref ac, .ref ab, .int si, .ref ax, .ref aw, .ref an, .ref av, .ref aa])), (ak, .inl (cI, 2, .inl cn))] sz) [(h, .inr (5, [.int (f_MO_counter sg th le lo da si cn).2, .ref af, .ref ak, .ref ar, .ref ag, .int le, .int lo, .int da, .ref ad, .ref ac, .ref ab, .int si, .ref ax, .ref aw, .ref an, .ref av, .ref aa])), (ak, .inl (cI, 2, .inl cn))]) (va_A [(h, .inr (5, [.int th, .ref af, .ref ak, .ref ar, .ref ag, .int le, .int lo, .int da, .ref ad, .ref ac, .ref ab, .int si, .ref ax, .ref aw, .ref an, .ref av, .ref aa])), (ak, .inl (cI, 2, .inl cn))] sz)) 0 0 (va_A [(h, .inr (5, [.int th, .ref af, .ref ak, .ref ar, .ref ag, .int le, .int lo, .int da, .ref ad, .ref ac, .ref ab, .int si, .ref ax, .ref aw, .ref an, .ref av, .ref aa])), (ak, .inl (cI, 2, .inl cn))] sz) := by
  refine Met.ofW (cc := prog_8_method_36_code) (maxL := 2) (ret := (some .int)) (by decide) rfl ?_
  intro p e s m args below meth c s₁ B hml hv
  obtain ⟨rfl, hsz, hP, hK, hD0, hE⟩ := hv
  have hx := B.exec
  have hb := B.bytes
  have hr := B.returns
  have hts : ∀ w ∈ bc_G, w.before ([.ref h, .int sg] : List Value).toArray s = true := fun w h => atoms_spec (ws := ws_MO_counter) B.pre w (List.mem_cons_of_mem _ h)
  have hown : s.vm.findClass "BootChainModel" = some m.cls := findClass_of_methodNamed B.named
  have hlocks := B.notSynchronized
  subst hsz
  have hD := hD0.self (sz := s.heap.size)
  generalize hAe : va_A [(h, .inr (5, [.int th, .ref af, .ref ak, .ref ar, .ref ag, .int le, .int lo, .int da, .ref ad, .ref ac, .ref ab, .int si, .ref ax, .ref aw, .ref an, .ref av, .ref aa])), (ak, .inl (cI, 2, .inl cn))] s.heap.size = A at hD hE ⊢
  have hA : ∀ q : Nat, s.heap.size ≤ q → A q := fun q h => by rw [← hAe]; exact Or.inr h
  have hS : va_S A s.heap s.heap [] := va_S.rf
  have hl := lv_entry ([.ref h, .int sg]) (n := 2) (Nat.le_of_ble_eq_true rfl)
  rw [lg_entry_eq]
  generalize (lg_sl ([.ref h, .int sg]) ++ List.replicate (2 - (lg_sl ([.ref h, .int sg])).length) Slot.unset).toArray = ls at hl ⊢
  have hl : lv_has ls 2 [(0, .ref h), (1, .int sg)] := hl
  refine lv_aload_n hx hb d_MO_counter_0 rfl (lv_at hl 0 rfl) ?_
  refine lv_iconst (v := 0) hx hb d_MO_counter_1 (by decide) ?_
  refine va_put (D := (dC, dI)) (ci := 5) (v := .int (0 : Int32)) (ty := .int) (C := R_MO) (T := F_MO) (N := 17) hx hb hts in_MO t_MO t_MO_ok n_MO hown hK hP hD hS 0 rfl rfl 0 (by decide) (hts _ gw_518) (fun _ h9 => h9) rfl (by decide +kernel) rfl rfl (Nat.le_of_ble_eq_true rfl) d_MO_counter_2 (fun H locs hP hD hS => ?_)
  have hP : va_P (dC, dI) classes [(h, .inr (5, [.int (0 : Int32), .ref af, .ref ak, .ref ar, .ref ag, .int le, .int lo, .int da, .ref ad, .ref ac, .ref ab, .int si, .ref ax, .ref aw, .ref an, .ref av, .ref aa])), (ak, .inl (cI, 2, .inl cn))] H := hP
  have hD : va_D A [(h, .inr (5, [.int (0 : Int32), .ref af, .ref ak, .ref ar, .ref ag, .int le, .int lo, .int da, .ref ad, .ref ac, .ref ab, .int si, .ref ax, .ref aw, .ref an, .ref av, .ref aa])), (ak, .inl (cI, 2, .inl cn))] := hD
  refine lv_iload_n hx hb d_MO_counter_5 rfl (lv_at hl 1 rfl) ?_
  refine lv_iconst (v := 2) hx hb d_MO_counter_6 (by decide) ?_
  have hPc := hP.sub (ws' := []) [] rfl
  have hDc := hD.sub (ws' := []) [] (by decide) rfl
  have hFc := va_free (wc := []) hD hS hA [] rfl
  refine va_calli (va_runS (As := [.int sg, .int (2 : Int32)]) (rest := []) ⟨hx, hb, hml, hown, hts⟩ (c_MO_out l dC dI cI cJ _ sg (2 : Int32)) ⟨callB_of 2 hts (bc_good gw_569) rfl rfl rfl (hts _ gw_6) (hts _ gw_567) (by decide +kernel) ⟨Nat.le_of_ble_eq_true rfl, Nat.le_of_ble_eq_true rfl⟩, (hts _ gw_568)⟩ ⟨bc_blind, fun U hU hW => ⟨rfl, bc_give hPc hDc hK hE hS hFc U hU hW⟩⟩ rfl rfl hl.1 rfl (lv_room (Nat.le_of_ble_eq_true rfl)) d_MO_counter_7 ⟨Nat.le_of_ble_eq_true rfl, Nat.le_of_ble_eq_true rfl⟩) hS (fun q _ h => hFc q h) hFc (fun r u t H9 locs ht hvm hp hB hz1 hk1 hS => ?_)
  subst hp
  obtain ⟨hP, hD⟩ := va_join (wr := [(h, .inr (5, [.int (0 : Int32), .ref af, .ref ak, .ref ar, .ref ag, .int le, .int lo, .int da, .ref ad, .ref ac, .ref ab, .int si, .ref ax, .ref aw, .ref an, .ref av, .ref aa])), (ak, .inl (cI, 2, .inl cn))]) (w1 := []) hP hD [] [0, 1] rfl rfl (by decide) (by decide) hk1 hFc (ht ▸ hB.1) hB.2.2
  have hP := hP.sub (ws' := [(h, .inr (5, [.int (0 : Int32), .ref af, .ref ak, .ref ar, .ref ag, .int le, .int lo, .int da, .ref ad, .ref ac, .ref ab, .int si, .ref ax, .ref aw, .ref an, .ref av, .ref aa])), (ak, .inl (cI, 2, .inl cn))]) [0, 1] rfl
  have hD := hD.sub (ws' := [(h, .inr (5, [.int (0 : Int32), .ref af, .ref ak, .ref ar, .ref ag, .int le, .int lo, .int da, .ref ad, .ref ac, .ref ab, .int si, .ref ax, .ref aw, .ref an, .ref av, .ref aa])), (ak, .inl (cI, 2, .inl cn))]) [0, 1] (by decide) rfl
  generalize H9 = H at hP hS ⊢
  refine lv_if_eq (tgt := 21) hx hb d_MO_counter_10 (by decide) (fun h2 => ?_) (fun h2 => ?_)
  · refine lv_aload_n hx hb d_MO_counter_21 rfl (lv_at hl 0 rfl) ?_
    refine va_get (D := (dC, dI)) (ci := 5) (v := .ref ak) (C := R_MO) (T := F_MO) (N := 17) hx hb hts in_MO hown hK hP 0 rfl rfl 2 (by decide) (hts _ gw_520) (fun _ h9 => h9) rfl d_MO_counter_22 ?_
    refine lv_iload_n hx hb d_MO_counter_25 rfl (lv_at hl 1 rfl) ?_
    refine va_iald hx hb hK hP 1 0 rfl rfl (by exact ix_st (out2 (by assumption))) d_MO_counter_26 ?_
    have e0 : (f_MO_counter sg th le lo da si cn) = ((cn (sg).toNatClampNeg), (0 : Int32)) := by rw [f_MO_counter, if_pos h2]
    rw [e0]
    exact W.iret (v := (cn (sg).toNatClampNeg)) hx hb hr (fun t ht hW => ⟨⟨(cn (sg).toNatClampNeg), (), rfl, rfl, by rw [ht]; exact hP, va_K.moved hW.alike hK, hD⟩, hS.F ht⟩) hS.2.2 d_MO_counter_27
  · refine lv_aload_n hx hb d_MO_counter_13 rfl (lv_at hl 0 rfl) ?_
    refine lv_iconst (v := 1) hx hb d_MO_counter_14 (by decide) ?_
    have hPc := hP.sub (ws' := [(h, .inr (5, [.int (0 : Int32), .ref af, .ref ak, .ref ar, .ref ag, .int le, .int lo, .int da, .ref ad, .ref ac, .ref ab, .int si, .ref ax, .ref aw, .ref an, .ref av, .ref aa]))]) [0] rfl
    have hDc := hD.sub (ws' := [(h, .inr (5, [.int (0 : Int32), .ref af, .ref ak, .ref ar, .ref ag, .int le, .int lo, .int da, .ref ad, .ref ac, .ref ab, .int si, .ref ax, .ref aw, .ref an, .ref av, .ref aa]))]) [0] (by decide) rfl
    have hFc := va_free (wc := [(h, .inr (5, [.int (0 : Int32), .ref af, .ref ak, .ref ar, .ref ag, .int le, .int lo, .int da, .ref ad, .ref ac, .ref ab, .int si, .ref ax, .ref aw, .ref an, .ref av, .ref aa]))]) hD hS hA [0] rfl
    refine va_calli (va_runV (As := [.int (1 : Int32)]) (rest := []) ⟨hx, hb, hml, hown, hts⟩ (c_MO_fail l dC dI cI cJ h af ak ar ag ad ac ab ax aw an av aa _ (1 : Int32) (0 : Int32) le lo da si) ⟨callB_of 1 hts (bc_good gw_618) rfl rfl rfl (hts _ gw_6) (hts _ gw_616) (by decide +kernel) ⟨Nat.le_of_ble_eq_true rfl, Nat.le_of_ble_eq_true rfl⟩, (hts _ gw_617), (hts _ gw_717)⟩ ⟨bc_blind, va_recv (q0 := 0) hK hP (q := (R_MO, F_MO, 17)) rfl rfl, fun U hU hW => ⟨rfl, bc_give hPc hDc hK hE hS hFc U hU hW⟩⟩ rfl rfl hl.1 rfl (lv_room (Nat.le_of_ble_eq_true rfl)) d_MO_counter_15 ⟨Nat.le_of_ble_eq_true rfl, Nat.le_of_ble_eq_true rfl⟩) hS (fun q _ h => hFc q h) hFc (fun r u t H9 locs ht hvm hp hB hz1 hk1 hS => ?_)
    subst hp
    obtain ⟨hP, hD⟩ := va_join (wr := [(ak, .inl (cI, 2, .inl cn))]) (w1 := [(h, .inr (5, [.int ((f_MO_fail (1 : Int32) (0 : Int32) le lo da si).2), .ref af, .ref ak, .ref ar, .ref ag, .int le, .int lo, .int da, .ref ad, .ref ac, .ref ab, .int si, .ref ax, .ref aw, .ref an, .ref av, .ref aa]))]) hP hD [0] [1] rfl rfl (by decide) (by decide) hk1 hFc (ht ▸ hB.1) hB.2.2
    have hP := hP.sub (ws' := [(h, .inr (5, [.int ((f_MO_fail (1 : Int32) (0 : Int32) le lo da si).2), .ref af, .ref ak, .ref ar, .ref ag, .int le, .int lo, .int da, .ref ad, .ref ac, .ref ab, .int si, .ref ax, .ref aw, .ref an, .ref av, .ref aa])), (ak, .inl (cI, 2, .inl cn))]) [1, 0] rfl
    have hD := hD.sub (ws' := [(h, .inr (5, [.int ((f_MO_fail (1 : Int32) (0 : Int32) le lo da si).2), .ref af, .ref ak, .ref ar, .ref ag, .int le, .int lo, .int da, .ref ad, .ref ac, .ref ab, .int si, .ref ax, .ref aw, .ref an, .ref av, .ref aa])), (ak, .inl (cI, 2, .inl cn))]) [1, 0] (by decide) rfl
    generalize H9 = H at hP hS ⊢
    have e0 : (f_MO_counter sg th le lo da si cn) = f_MO_counter_c1 sg th le lo da si cn (f_MO_fail (1 : Int32) (0 : Int32) le lo da si) := by rw [f_MO_counter, if_neg h2]
    rw [e0]
    generalize hu1 : (f_MO_fail (1 : Int32) (0 : Int32) le lo da si) = u1 at hP hD ⊢
    have hP : va_P (dC, dI) classes [(h, .inr (5, [.int (u1.2), .ref af, .ref ak, .ref ar, .ref ag, .int le, .int lo, .int da, .ref ad, .ref ac, .ref ab, .int si, .ref ax, .ref aw, .ref an, .ref av, .ref aa])), (ak, .inl (cI, 2, .inl cn))] H := hP
    have hD : va_D A [(h, .inr (5, [.int (u1.2), .ref af, .ref ak, .ref ar, .ref ag, .int le, .int lo, .int da, .ref ad, .ref ac, .ref ab, .int si, .ref ax, .ref aw, .ref an, .ref av, .ref aa])), (ak, .inl (cI, 2, .inl cn))] := hD
    refine lv_goto (tgt := 27) hx hb d_MO_counter_18 (by decide) ?_
    have e0 : (f_MO_counter_c1 sg th le lo da si cn u1) = ((u1.1), (u1.2)) := by rw [f_MO_counter_c1]
    rw [e0]
    exact W.iret (v := (u1.1)) hx hb hr (fun t ht hW => ⟨⟨(u1.1), (), rfl, rfl, by rw [ht]; exact hP, va_K.moved hW.alike hK, hD⟩, hS.F ht⟩) hS.2.2 d_MO_counter_27
-- MO_register
theorem d_MO_register_0 : decode prog_8_method_37_code 0 = .ok (.aload_n 0, 1) := by decide +kernel
theorem d_MO_register_1 : decode prog_8_method_37_code 1 = .ok (.iconst 0, 1) := by decide +kernel
theorem d_MO_register_2 : decode prog_8_method_37_code 2 = .ok (.putfield 195, 3) := by decide +kernel
theorem d_MO_register_5 : decode prog_8_method_37_code 5 = .ok (.iload_n 1, 1) := by decide +kernel
theorem d_MO_register_6 : decode prog_8_method_37_code 6 = .ok (.iconst 2, 1) := by decide +kernel
theorem d_MO_register_7 : decode prog_8_method_37_code 7 = .ok (.invokestatic 256, 3) := by decide +kernel
theorem d_MO_register_10 : decode prog_8_method_37_code 10 = .ok (.ifCond .ne 12, 3) := by decide +kernel
theorem d_MO_register_13 : decode prog_8_method_37_code 13 = .ok (.iload_n 2, 1) := by decide +kernel
theorem d_MO_register_14 : decode prog_8_method_37_code 14 = .ok (.bipush 8, 2) := by decide +kernel
theorem d_MO_register_16 : decode prog_8_method_37_code 16 = .ok (.invokestatic 256, 3) := by decide +kernel
theorem d_MO_register_19 : decode prog_8_method_37_code 19 = .ok (.ifCond .eq 11, 3) := by decide +kernel
theorem d_MO_register_22 : decode prog_8_method_37_code 22 = .ok (.aload_n 0, 1) := by decide +kernel
theorem d_MO_register_23 : decode prog_8_method_37_code 23 = .ok (.iconst 1, 1) := by decide +kernel
theorem d_MO_register_24 : decode prog_8_method_37_code 24 = .ok (.invokevirtual 281, 3) := by decide +kernel
theorem d_MO_register_27 : decode prog_8_method_37_code 27 = .ok (.goto 14, 3) := by decide +kernel
theorem d_MO_register_30 : decode prog_8_method_37_code 30 = .ok (.aload_n 0, 1) := by decide +kernel
theorem d_MO_register_31 : decode prog_8_method_37_code 31 = .ok (.getfield 19, 3) := by decide +kernel
theorem d_MO_register_34 : decode prog_8_method_37_code 34 = .ok (.bipush 8, 2) := by decide +kernel
theorem d_MO_register_36 : decode prog_8_method_37_code 36 = .ok (.iload_n 1, 1) := by decide +kernel
theorem d_MO_register_37 : decode prog_8_method_37_code 37 = .ok (.imul, 1) := by decide +kernel
theorem d_MO_register_38 : decode prog_8_method_37_code 38 = .ok (.iload_n 2, 1) := by decide +kernel
theorem d_MO_register_39 : decode prog_8_method_37_code 39 = .ok (.iadd, 1) := by decide +kernel
theorem d_MO_register_40 : decode prog_8_method_37_code 40 = .ok (.iaload, 1) := by decide +kernel
theorem d_MO_register_41 : decode prog_8_method_37_code 41 = .ok (.ireturn, 1) := by decide +kernel
def y_MO_register : MethodName := ⟨"BootChainModel", "register", "(II)I"⟩
def ws_MO_register : List Cond := .code y_MO_register prog_8_method_37_code 3 (some .int) :: bc_G
def f_MO_register_c1 (sg : Int32) (wd : Int32) (th : Int32) (le : Int32) (lo : Int32) (da : Int32) (si : Int32) (rg : Nat → Int32) (y0_0 : Int32) (u1 : Int32 × Int32) : Int32 × Int32 := ((u1.1), (u1.2))
def f_MO_register_j22 (sg : Int32) (wd : Int32) (th : Int32) (le : Int32) (lo : Int32) (da : Int32) (si : Int32) (rg : Nat → Int32) (y0_0 : Int32) : Int32 × Int32 := f_MO_register_c1 sg wd th le lo da si rg y0_0 (f_MO_fail (1 : Int32) y0_0 le lo da si)
def f_MO_register (sg : Int32) (wd : Int32) (th : Int32) (le : Int32) (lo : Int32) (da : Int32) (si : Int32) (rg : Nat → Int32) : Int32 × Int32 := if (f_MO_out sg (2 : Int32)) = 0 then if (f_MO_out wd (8 : Int32)) = 0 then ((rg ((((8 : Int32) * sg) + wd)).toNatClampNeg), (0 : Int32)) else f_MO_register_j22 sg wd th le lo da si rg (0 : Int32) else f_MO_register_j22 sg wd th le lo da si rg (0 : Int32)
set_option maxHeartbeats 4000000 in
set_option maxRecDepth 100000 in
theorem c_MO_register (l : Launch) (dC : Nat → ClassId) (dI : Nat → Nat → Nat) (cI cJ : ClassId) (h af ak ar ag ad ac ab ax aw an av aa : Nat) (sz : Nat) (sg : Int32) (wd : Int32) (th : Int32) (le : Int32) (lo : Int32) (da : Int32) (si : Int32) (rg : Nat → Int32) : Met l y_MO_register ws_MO_register ({ frames := 1, cells := 0, slots := 0, locals := 21 } : Room) (va_Pc [.ref h, .int sg, .int wd] (bc_pre (dC, dI) cI cJ [(h, .inr (5, [.int th, .ref af, .ref ak, .ref ar, .ref ag, .int le, .int lo, .int da, .ref ad, .ref ac, .ref ab, .int si, .ref ax, .ref aw, .ref an, .ref av, .ref aa])), (ag, .inl (cI, 16, .inl rg))] sz)) (va_Qi (fun (r : Int32) (_ : Unit) => r = (f_MO_register sg wd th le lo da si rg).1) (fun _ => bc_post (dC, dI) cI cJ (va_A [(h, .inr (5, [.int th, .ref af, .ref ak, .ref ar, .ref ag, .int le, .int lo, .int da, .ref ad, .ref ac, .ref ab, .int si, .ref ax, .ref aw, .ref an, .ref av, .ref aa])), (ag, .inl (cI, 16, .inl rg))] sz) [(h, .inr (5, [.int (f_MO_register sg wd th le lo da si rg).2, .ref af, .ref ak, .ref ar, .ref ag, .int le, .int lo, .int da, .ref ad, .ref ac, .ref ab, .int si, .ref ax, .ref aw, .ref an, .ref av, .ref aa])), (ag, .inl (cI, 16, .inl rg))]) (va_A [(h, .inr (5, [.int th, .ref af, .ref ak, .ref ar, .ref ag, .int le, .int lo, .int da, .ref ad, .ref ac, .ref ab, .int si, .ref ax, .ref aw, .ref an, .ref av, .ref aa])), (ag, .inl (cI, 16, .inl rg))] sz)) 0 0 (va_A [(h, .inr (5, [.int th, .ref af, .ref ak, .ref ar, .ref ag, .int le, .int lo, .int da, .ref ad, .ref ac, .ref ab, .int si, .ref ax, .ref aw, .ref an, .ref av, .ref aa])), (ag, .inl (cI, 16, .inl rg))] sz) := by
  refine Met.ofW (cc := prog_8_method_37_code) (maxL := 3) (ret := (some .int)) (by decide) rfl ?_
  intro p e s m args below meth c s₁ B hml hv
  obtain ⟨rfl, hsz, hP, hK, hD0, hE⟩ := hv
  have hx := B.exec
  have hb := B.bytes
  have hr := B.returns
  have hts : ∀ w ∈ bc_G, w.before ([.ref h, .int sg, .int wd] : List Value).toArray s = true := fun w h => atoms_spec (ws := ws_MO_register) B.pre w (List.mem_cons_of_mem _ h)
  have hown : s.vm.findClass "BootChainModel" = some m.cls := findClass_of_methodNamed B.named
  have hlocks := B.notSynchronized
  subst hsz
  have hD := hD0.self (sz := s.heap.size)
  generalize hAe : va_A [(h, .inr (5, [.int th, .ref af, .ref ak, .ref ar, .ref ag, .int le, .int lo, .int da, .ref ad, .ref ac, .ref ab, .int si, .ref ax, .ref aw, .ref an, .ref av, .ref aa])), (ag, .inl (cI, 16, .inl rg))] s.heap.size = A at hD hE ⊢
  have hA : ∀ q : Nat, s.heap.size ≤ q → A q := fun q h => by rw [← hAe]; exact Or.inr h
  have hS : va_S A s.heap s.heap [] := va_S.rf
  have jn_22 : ∀ (y0_0 : Int32) (H : Heap) (locs : List Loc) (ls : Array Slot), lv_has ls 3 [(0, .ref h)] → va_P (dC, dI) classes [(h, .inr (5, [.int y0_0, .ref af, .ref ak, .ref ar, .ref ag, .int le, .int lo, .int da, .ref ad, .ref ac, .ref ab, .int si, .ref ax, .ref aw, .ref an, .ref av, .ref aa])), (ag, .inl (cI, 16, .inl rg))] H → va_D A [(h, .inr (5, [.int y0_0, .ref af, .ref ak, .ref ar, .ref ag, .int le, .int lo, .int da, .ref ad, .ref ac, .ref ab, .int si, .ref ax, .ref aw, .ref an, .ref av, .ref aa])), (ag, .inl (cI, 16, .inl rg))] → va_S A s.heap H locs → W p l e (headSpec ws_MO_register ({ frames := 1, cells := 0, slots := 0, locals := 21 } : Room)).room s m ([.ref h, .int sg, .int wd] : List Value).toArray below meth c H locs 0 0 (MQ below (va_Qi (fun (r : Int32) (_ : Unit) => r = (f_MO_register_j22 sg wd th le lo da si rg y0_0).1) (fun _ => bc_post (dC, dI) cI cJ A [(h, .inr (5, [.int (f_MO_register_j22 sg wd th le lo da si rg y0_0).2, .ref af, .ref ak, .ref ar, .ref ag, .int le, .int lo, .int da, .ref ad, .ref ac, .ref ab, .int si, .ref ax, .ref aw, .ref an, .ref av, .ref aa])), (ag, .inl (cI, 16, .inl rg))]) A) ([.ref h, .int sg, .int wd] : List Value).toArray s 0 0 A) (F0 m 22 ls []) := by
    intro y0_0 H locs ls hl hP hD hS
    refine lv_aload_n hx hb d_MO_register_22 rfl (lv_at hl 0 rfl) ?_
    refine lv_iconst (v := 1) hx hb d_MO_register_23 (by decide) ?_
    have hPc := hP.sub (ws' := [(h, .inr (5, [.int y0_0, .ref af, .ref ak, .ref ar, .ref ag, .int le, .int lo, .int da, .ref ad, .ref ac, .ref ab, .int si, .ref ax, .ref aw, .ref an, .ref av, .ref aa]))]) [0] rfl
    have hDc := hD.sub (ws' := [(h, .inr (5, [.int y0_0, .ref af, .ref ak, .ref ar, .ref ag, .int le, .int lo, .int da, .ref ad, .ref ac, .ref ab, .int si, .ref ax, .ref aw, .ref an, .ref av, .ref aa]))]) [0] (by decide) rfl
    have hFc := va_free (wc := [(h, .inr (5, [.int y0_0, .ref af, .ref ak, .ref ar, .ref ag, .int le, .int lo, .int da, .ref ad, .ref ac, .ref ab, .int si, .ref ax, .ref aw, .ref an, .ref av, .ref aa]))]) hD hS hA [0] rfl
    refine va_calli (va_runV (As := [.int (1 : Int32)]) (rest := []) ⟨hx, hb, hml, hown, hts⟩ (c_MO_fail l dC dI cI cJ h af ak ar ag ad ac ab ax aw an av aa _ (1 : Int32) y0_0 le lo da si) ⟨callB_of 1 hts (bc_good gw_618) rfl rfl rfl (hts _ gw_6) (hts _ gw_616) (by decide +kernel) ⟨Nat.le_of_ble_eq_true rfl, Nat.le_of_ble_eq_true rfl⟩, (hts _ gw_617), (hts _ gw_717)⟩ ⟨bc_blind, va_recv (q0 := 0) hK hP (q := (R_MO, F_MO, 17)) rfl rfl, fun U hU hW => ⟨rfl, bc_give hPc hDc hK hE hS hFc U hU hW⟩⟩ rfl rfl hl.1 rfl (lv_room (Nat.le_of_ble_eq_true rfl)) d_MO_register_24 ⟨Nat.le_of_ble_eq_true rfl, Nat.le_of_ble_eq_true rfl⟩) hS (fun q _ h => hFc q h) hFc (fun r u t H9 locs ht hvm hp hB hz1 hk1 hS => ?_)
    subst hp
    obtain ⟨hP, hD⟩ := va_join (wr := [(ag, .inl (cI, 16, .inl rg))]) (w1 := [(h, .inr (5, [.int ((f_MO_fail (1 : Int32) y0_0 le lo da si).2), .ref af, .ref ak, .ref ar, .ref ag, .int le, .int lo, .int da, .ref ad, .ref ac, .ref ab, .int si, .ref ax, .ref aw, .ref an, .ref av, .ref aa]))]) hP hD [0] [1] rfl rfl (by decide) (by decide) hk1 hFc (ht ▸ hB.1) hB.2.2
    have hP := hP.sub (ws' := [(h, .inr (5, [.int ((f_MO_fail (1 : Int32) y0_0 le lo da si).2), .ref af, .ref ak, .ref ar, .ref ag, .int le, .int lo, .int da, .ref ad, .ref ac, .ref ab, .int si, .ref ax, .ref aw, .ref an, .ref av, .ref aa])), (ag, .inl (cI, 16, .inl rg))]) [1, 0] rfl
    have hD := hD.sub (ws' := [(h, .inr (5, [.int ((f_MO_fail (1 : Int32) y0_0 le lo da si).2), .ref af, .ref ak, .ref ar, .ref ag, .int le, .int lo, .int da, .ref ad, .ref ac, .ref ab, .int si, .ref ax, .ref aw, .ref an, .ref av, .ref aa])), (ag, .inl (cI, 16, .inl rg))]) [1, 0] (by decide) rfl
    generalize H9 = H at hP hS ⊢
    have e0 : (f_MO_register_j22 sg wd th le lo da si rg y0_0) = f_MO_register_c1 sg wd th le lo da si rg y0_0 (f_MO_fail (1 : Int32) y0_0 le lo da si) := by rw [f_MO_register_j22]
    rw [e0]
    generalize hu1 : (f_MO_fail (1 : Int32) y0_0 le lo da si) = u1 at hP hD ⊢
    have hP : va_P (dC, dI) classes [(h, .inr (5, [.int (u1.2), .ref af, .ref ak, .ref ar, .ref ag, .int le, .int lo, .int da, .ref ad, .ref ac, .ref ab, .int si, .ref ax, .ref aw, .ref an, .ref av, .ref aa])), (ag, .inl (cI, 16, .inl rg))] H := hP
    have hD : va_D A [(h, .inr (5, [.int (u1.2), .ref af, .ref ak, .ref ar, .ref ag, .int le, .int lo, .int da, .ref ad, .ref ac, .ref ab, .int si, .ref ax, .ref aw, .ref an, .ref av, .ref aa])), (ag, .inl (cI, 16, .inl rg))] := hD
    refine lv_goto (tgt := 41) hx hb d_MO_register_27 (by decide) ?_
    have e0 : (f_MO_register_c1 sg wd th le lo da si rg y0_0 u1) = ((u1.1), (u1.2)) := by rw [f_MO_register_c1]
    rw [e0]
    exact W.iret (v := (u1.1)) hx hb hr (fun t ht hW => ⟨⟨(u1.1), (), rfl, rfl, by rw [ht]; exact hP, va_K.moved hW.alike hK, hD⟩, hS.F ht⟩) hS.2.2 d_MO_register_41
  have hl := lv_entry ([.ref h, .int sg, .int wd]) (n := 3) (Nat.le_of_ble_eq_true rfl)
  rw [lg_entry_eq]
  generalize (lg_sl ([.ref h, .int sg, .int wd]) ++ List.replicate (3 - (lg_sl ([.ref h, .int sg, .int wd])).length) Slot.unset).toArray = ls at hl ⊢
  have hl : lv_has ls 3 [(0, .ref h), (1, .int sg), (2, .int wd)] := hl
  refine lv_aload_n hx hb d_MO_register_0 rfl (lv_at hl 0 rfl) ?_
  refine lv_iconst (v := 0) hx hb d_MO_register_1 (by decide) ?_
  refine va_put (D := (dC, dI)) (ci := 5) (v := .int (0 : Int32)) (ty := .int) (C := R_MO) (T := F_MO) (N := 17) hx hb hts in_MO t_MO t_MO_ok n_MO hown hK hP hD hS 0 rfl rfl 0 (by decide) (hts _ gw_518) (fun _ h9 => h9) rfl (by decide +kernel) rfl rfl (Nat.le_of_ble_eq_true rfl) d_MO_register_2 (fun H locs hP hD hS => ?_)
  have hP : va_P (dC, dI) classes [(h, .inr (5, [.int (0 : Int32), .ref af, .ref ak, .ref ar, .ref ag, .int le, .int lo, .int da, .ref ad, .ref ac, .ref ab, .int si, .ref ax, .ref aw, .ref an, .ref av, .ref aa])), (ag, .inl (cI, 16, .inl rg))] H := hP
  have hD : va_D A [(h, .inr (5, [.int (0 : Int32), .ref af, .ref ak, .ref ar, .ref ag, .int le, .int lo, .int da, .ref ad, .ref ac, .ref ab, .int si, .ref ax, .ref aw, .ref an, .ref av, .ref aa])), (ag, .inl (cI, 16, .inl rg))] := hD
  refine lv_iload_n hx hb d_MO_register_5 rfl (lv_at hl 1 rfl) ?_
  refine lv_iconst (v := 2) hx hb d_MO_register_6 (by decide) ?_
  have hPc := hP.sub (ws' := []) [] rfl
  have hDc := hD.sub (ws' := []) [] (by decide) rfl
  have hFc := va_free (wc := []) hD hS hA [] rfl
  refine va_calli (va_runS (As := [.int sg, .int (2 : Int32)]) (rest := []) ⟨hx, hb, hml, hown, hts⟩ (c_MO_out l dC dI cI cJ _ sg (2 : Int32)) ⟨callB_of 2 hts (bc_good gw_569) rfl rfl rfl (hts _ gw_6) (hts _ gw_567) (by decide +kernel) ⟨Nat.le_of_ble_eq_true rfl, Nat.le_of_ble_eq_true rfl⟩, (hts _ gw_568)⟩ ⟨bc_blind, fun U hU hW => ⟨rfl, bc_give hPc hDc hK hE hS hFc U hU hW⟩⟩ rfl rfl hl.1 rfl (lv_room (Nat.le_of_ble_eq_true rfl)) d_MO_register_7 ⟨Nat.le_of_ble_eq_true rfl, Nat.le_of_ble_eq_true rfl⟩) hS (fun q _ h => hFc q h) hFc (fun r u t H9 locs ht hvm hp hB hz1 hk1 hS => ?_)
  subst hp
  obtain ⟨hP, hD⟩ := va_join (wr := [(h, .inr (5, [.int (0 : Int32), .ref af, .ref ak, .ref ar, .ref ag, .int le, .int lo, .int da, .ref ad, .ref ac, .ref ab, .int si, .ref ax, .ref aw, .ref an, .ref av, .ref aa])), (ag, .inl (cI, 16, .inl rg))]) (w1 := []) hP hD [] [0, 1] rfl rfl (by decide) (by decide) hk1 hFc (ht ▸ hB.1) hB.2.2
  have hP := hP.sub (ws' := [(h, .inr (5, [.int (0 : Int32), .ref af, .ref ak, .ref ar, .ref ag, .int le, .int lo, .int da, .ref ad, .ref ac, .ref ab, .int si, .ref ax, .ref aw, .ref an, .ref av, .ref aa])), (ag, .inl (cI, 16, .inl rg))]) [0, 1] rfl
  have hD := hD.sub (ws' := [(h, .inr (5, [.int (0 : Int32), .ref af, .ref ak, .ref ar, .ref ag, .int le, .int lo, .int da, .ref ad, .ref ac, .ref ab, .int si, .ref ax, .ref aw, .ref an, .ref av, .ref aa])), (ag, .inl (cI, 16, .inl rg))]) [0, 1] (by decide) rfl
  generalize H9 = H at hP hS ⊢
  refine lv_if_ne (tgt := 22) hx hb d_MO_register_10 (by decide) (fun h3 => ?_) (fun h3 => ?_)
  · have e0 : (f_MO_register sg wd th le lo da si rg) = f_MO_register_j22 sg wd th le lo da si rg (0 : Int32) := by rw [f_MO_register, if_neg h3]
    rw [e0]
    exact jn_22 (0 : Int32) _ _ ls (lv_sub hl [0] rfl) hP hD hS
  · refine lv_iload_n hx hb d_MO_register_13 rfl (lv_at hl 2 rfl) ?_
    refine lv_bipush (v := 8) hx hb d_MO_register_14 (by decide) ?_
    have hPc := hP.sub (ws' := []) [] rfl
    have hDc := hD.sub (ws' := []) [] (by decide) rfl
    have hFc := va_free (wc := []) hD hS hA [] rfl
    refine va_calli (va_runS (As := [.int wd, .int (8 : Int32)]) (rest := []) ⟨hx, hb, hml, hown, hts⟩ (c_MO_out l dC dI cI cJ _ wd (8 : Int32)) ⟨callB_of 2 hts (bc_good gw_569) rfl rfl rfl (hts _ gw_6) (hts _ gw_567) (by decide +kernel) ⟨Nat.le_of_ble_eq_true rfl, Nat.le_of_ble_eq_true rfl⟩, (hts _ gw_568)⟩ ⟨bc_blind, fun U hU hW => ⟨rfl, bc_give hPc hDc hK hE hS hFc U hU hW⟩⟩ rfl rfl hl.1 rfl (lv_room (Nat.le_of_ble_eq_true rfl)) d_MO_register_16 ⟨Nat.le_of_ble_eq_true rfl, Nat.le_of_ble_eq_true rfl⟩) hS (fun q _ h => hFc q h) hFc (fun r u t H9 locs ht hvm hp hB hz1 hk1 hS => ?_)
    subst hp
    obtain ⟨hP, hD⟩ := va_join (wr := [(h, .inr (5, [.int (0 : Int32), .ref af, .ref ak, .ref ar, .ref ag, .int le, .int lo, .int da, .ref ad, .ref ac, .ref ab, .int si, .ref ax, .ref aw, .ref an, .ref av, .ref aa])), (ag, .inl (cI, 16, .inl rg))]) (w1 := []) hP hD [] [0, 1] rfl rfl (by decide) (by decide) hk1 hFc (ht ▸ hB.1) hB.2.2
    have hP := hP.sub (ws' := [(h, .inr (5, [.int (0 : Int32), .ref af, .ref ak, .ref ar, .ref ag, .int le, .int lo, .int da, .ref ad, .ref ac, .ref ab, .int si, .ref ax, .ref aw, .ref an, .ref av, .ref aa])), (ag, .inl (cI, 16, .inl rg))]) [0, 1] rfl
    have hD := hD.sub (ws' := [(h, .inr (5, [.int (0 : Int32), .ref af, .ref ak, .ref ar, .ref ag, .int le, .int lo, .int da, .ref ad, .ref ac, .ref ab, .int si, .ref ax, .ref aw, .ref an, .ref av, .ref aa])), (ag, .inl (cI, 16, .inl rg))]) [0, 1] (by decide) rfl
    generalize H9 = H at hP hS ⊢
    refine lv_if_eq (tgt := 30) hx hb d_MO_register_19 (by decide) (fun h4 => ?_) (fun h4 => ?_)
    · refine lv_aload_n hx hb d_MO_register_30 rfl (lv_at hl 0 rfl) ?_
      refine va_get (D := (dC, dI)) (ci := 5) (v := .ref ag) (C := R_MO) (T := F_MO) (N := 17) hx hb hts in_MO hown hK hP 0 rfl rfl 4 (by decide) (hts _ gw_522) (fun _ h9 => h9) rfl d_MO_register_31 ?_
      refine lv_bipush (v := 8) hx hb d_MO_register_34 (by decide) ?_
      refine lv_iload_n hx hb d_MO_register_36 rfl (lv_at hl 1 rfl) ?_
      refine lv_imul hx hb d_MO_register_37 ?_
      refine lv_iload_n hx hb d_MO_register_38 rfl (lv_at hl 2 rfl) ?_
      refine lv_iadd hx hb d_MO_register_39 ?_
      refine va_iald hx hb hK hP 1 0 rfl rfl (by exact ix_reg (out2 (by assumption)) (out_ok (by assumption))) d_MO_register_40 ?_
      have e0 : (f_MO_register sg wd th le lo da si rg) = ((rg ((((8 : Int32) * sg) + wd)).toNatClampNeg), (0 : Int32)) := by rw [f_MO_register, if_pos h3, if_pos h4]
      rw [e0]
      exact W.iret (v := (rg ((((8 : Int32) * sg) + wd)).toNatClampNeg)) hx hb hr (fun t ht hW => ⟨⟨(rg ((((8 : Int32) * sg) + wd)).toNatClampNeg), (), rfl, rfl, by rw [ht]; exact hP, va_K.moved hW.alike hK, hD⟩, hS.F ht⟩) hS.2.2 d_MO_register_41
    · have e0 : (f_MO_register sg wd th le lo da si rg) = f_MO_register_j22 sg wd th le lo da si rg (0 : Int32) := by rw [f_MO_register, if_pos h3, if_neg h4]
      rw [e0]
      exact jn_22 (0 : Int32) _ _ ls (lv_sub hl [0] rfl) hP hD hS
-- MO_state
theorem d_MO_state_0 : decode prog_8_method_35_code 0 = .ok (.aload_n 0, 1) := by decide +kernel
theorem d_MO_state_1 : decode prog_8_method_35_code 1 = .ok (.iconst 0, 1) := by decide +kernel
theorem d_MO_state_2 : decode prog_8_method_35_code 2 = .ok (.putfield 195, 3) := by decide +kernel
theorem d_MO_state_5 : decode prog_8_method_35_code 5 = .ok (.aload_n 0, 1) := by decide +kernel
theorem d_MO_state_6 : decode prog_8_method_35_code 6 = .ok (.invokevirtual 260, 3) := by decide +kernel
theorem d_MO_state_9 : decode prog_8_method_35_code 9 = .ok (.ireturn, 1) := by decide +kernel
def y_MO_state : MethodName := ⟨"BootChainModel", "state", "()I"⟩
def ws_MO_state : List Cond := .code y_MO_state prog_8_method_35_code 1 (some .int) :: bc_G
def f_MO_state (th : Int32) (le : Int32) (lo : Int32) (da : Int32) (si : Int32) (fl : Nat → Int32) : Int32 × Int32 := ((f_MO_stateNow (0 : Int32) le lo da si fl), (0 : Int32))
set_option maxHeartbeats 4000000 in
set_option maxRecDepth 100000 in
theorem c_MO_state (l : Launch) (dC : Nat → ClassId) (dI : Nat → Nat → Nat) (cI cJ : ClassId) (h af ak ar ag ad ac ab ax aw an av aa : Nat) (sz : Nat) (th : Int32) (le : Int32) (lo : Int32) (da : Int32) (si : Int32) (fl : Nat → Int32) : Met l y_MO_state ws_MO_state ({ frames := 3, cells := 0, slots := 0, locals := 62 } : Room) (va_Pc [.ref h] (bc_pre (dC, dI) cI cJ [(h, .inr (5, [.int th, .ref af, .ref ak, .ref ar, .ref ag, .int le, .int lo, .int da, .ref ad, .ref ac, .ref ab, .int si, .ref ax, .ref aw, .ref an, .ref av, .ref aa])), (af, .inl (cI, 70, .inl fl))] sz)) (va_Qi (fun (r : Int32) (_ : Unit) => r = (f_MO_state th le lo da si fl).1) (fun _ => bc_post (dC, dI) cI cJ (va_A [(h, .inr (5, [.int th, .ref af, .ref ak, .ref ar, .ref ag, .int le, .int lo, .int da, .ref ad, .ref ac, .ref ab, .int si, .ref ax, .ref aw, .ref an, .ref av, .ref aa])), (af, .inl (cI, 70, .inl fl))] sz) [(h, .inr (5, [.int (f_MO_state th le lo da si fl).2, .ref af, .ref ak, .ref ar, .ref ag, .int le, .int lo, .int da, .ref ad, .ref ac, .ref ab, .int si, .ref ax, .ref aw, .ref an, .ref av, .ref aa])), (af, .inl (cI, 70, .inl fl))]) (va_A [(h, .inr (5, [.int th, .ref af, .ref ak, .ref ar, .ref ag, .int le, .int lo, .int da, .ref ad, .ref ac, .ref ab, .int si, .ref ax, .ref aw, .ref an, .ref av, .ref aa])), (af, .inl (cI, 70, .inl fl))] sz)) 0 0 (va_A [(h, .inr (5, [.int th, .ref af, .ref ak, .ref ar, .ref ag, .int le, .int lo, .int da, .ref ad, .ref ac, .ref ab, .int si, .ref ax, .ref aw, .ref an, .ref av, .ref aa])), (af, .inl (cI, 70, .inl fl))] sz) := by
  refine Met.ofW (cc := prog_8_method_35_code) (maxL := 1) (ret := (some .int)) (by decide) rfl ?_
  intro p e s m args below meth c s₁ B hml hv
  obtain ⟨rfl, hsz, hP, hK, hD0, hE⟩ := hv
  have hx := B.exec
  have hb := B.bytes
  have hr := B.returns
  have hts : ∀ w ∈ bc_G, w.before ([.ref h] : List Value).toArray s = true := fun w h => atoms_spec (ws := ws_MO_state) B.pre w (List.mem_cons_of_mem _ h)
  have hown : s.vm.findClass "BootChainModel" = some m.cls := findClass_of_methodNamed B.named
  have hlocks := B.notSynchronized
  subst hsz
  have hD := hD0.self (sz := s.heap.size)
  generalize hAe : va_A [(h, .inr (5, [.int th, .ref af, .ref ak, .ref ar, .ref ag, .int le, .int lo, .int da, .ref ad, .ref ac, .ref ab, .int si, .ref ax, .ref aw, .ref an, .ref av, .ref aa])), (af, .inl (cI, 70, .inl fl))] s.heap.size = A at hD hE ⊢
  have hA : ∀ q : Nat, s.heap.size ≤ q → A q := fun q h => by rw [← hAe]; exact Or.inr h
  have hS : va_S A s.heap s.heap [] := va_S.rf
  have hl := lv_entry ([.ref h]) (n := 1) (Nat.le_of_ble_eq_true rfl)
  rw [lg_entry_eq]
  generalize (lg_sl ([.ref h]) ++ List.replicate (1 - (lg_sl ([.ref h])).length) Slot.unset).toArray = ls at hl ⊢
  have hl : lv_has ls 1 [(0, .ref h)] := hl
  refine lv_aload_n hx hb d_MO_state_0 rfl (lv_at hl 0 rfl) ?_
  refine lv_iconst (v := 0) hx hb d_MO_state_1 (by decide) ?_
  refine va_put (D := (dC, dI)) (ci := 5) (v := .int (0 : Int32)) (ty := .int) (C := R_MO) (T := F_MO) (N := 17) hx hb hts in_MO t_MO t_MO_ok n_MO hown hK hP hD hS 0 rfl rfl 0 (by decide) (hts _ gw_518) (fun _ h9 => h9) rfl (by decide +kernel) rfl rfl (Nat.le_of_ble_eq_true rfl) d_MO_state_2 (fun H locs hP hD hS => ?_)
  have hP : va_P (dC, dI) classes [(h, .inr (5, [.int (0 : Int32), .ref af, .ref ak, .ref ar, .ref ag, .int le, .int lo, .int da, .ref ad, .ref ac, .ref ab, .int si, .ref ax, .ref aw, .ref an, .ref av, .ref aa])), (af, .inl (cI, 70, .inl fl))] H := hP
  have hD : va_D A [(h, .inr (5, [.int (0 : Int32), .ref af, .ref ak, .ref ar, .ref ag, .int le, .int lo, .int da, .ref ad, .ref ac, .ref ab, .int si, .ref ax, .ref aw, .ref an, .ref av, .ref aa])), (af, .inl (cI, 70, .inl fl))] := hD
  refine lv_aload_n hx hb d_MO_state_5 rfl (lv_at hl 0 rfl) ?_
  have hPc := hP.sub (ws' := [(h, .inr (5, [.int (0 : Int32), .ref af, .ref ak, .ref ar, .ref ag, .int le, .int lo, .int da, .ref ad, .ref ac, .ref ab, .int si, .ref ax, .ref aw, .ref an, .ref av, .ref aa])), (af, .inl (cI, 70, .inl fl))]) [0, 1] rfl
  have hDc := hD.sub (ws' := [(h, .inr (5, [.int (0 : Int32), .ref af, .ref ak, .ref ar, .ref ag, .int le, .int lo, .int da, .ref ad, .ref ac, .ref ab, .int si, .ref ax, .ref aw, .ref an, .ref av, .ref aa])), (af, .inl (cI, 70, .inl fl))]) [0, 1] (by decide) rfl
  have hFc := va_free (wc := [(h, .inr (5, [.int (0 : Int32), .ref af, .ref ak, .ref ar, .ref ag, .int le, .int lo, .int da, .ref ad, .ref ac, .ref ab, .int si, .ref ax, .ref aw, .ref an, .ref av, .ref aa])), (af, .inl (cI, 70, .inl fl))]) hD hS hA [0, 1] rfl
  refine va_calli (va_runV (As := []) (rest := []) ⟨hx, hb, hml, hown, hts⟩ (c_MO_stateNow l dC dI cI cJ h af ak ar ag ad ac ab ax aw an av aa _ (0 : Int32) le lo da si fl) ⟨callB_of 0 hts (bc_good gw_572) rfl rfl rfl (hts _ gw_6) (hts _ gw_570) (by decide +kernel) ⟨Nat.le_of_ble_eq_true rfl, Nat.le_of_ble_eq_true rfl⟩, (hts _ gw_571), (hts _ gw_706)⟩ ⟨bc_blind, va_recv (q0 := 0) hK hP (q := (R_MO, F_MO, 17)) rfl rfl, fun U hU hW => ⟨rfl, bc_give hPc hDc hK hE hS hFc U hU hW⟩⟩ rfl rfl hl.1 rfl (lv_room (Nat.le_of_ble_eq_true rfl)) d_MO_state_6 ⟨Nat.le_of_ble_eq_true rfl, Nat.le_of_ble_eq_true rfl⟩) hS (fun q _ h => hFc q h) hFc (fun r u t H9 locs ht hvm hp hB hz1 hk1 hS => ?_)
  subst hp
  obtain ⟨hP, hD⟩ := va_join (wr := []) (w1 := [(h, .inr (5, [.int (0 : Int32), .ref af, .ref ak, .ref ar, .ref ag, .int le, .int lo, .int da, .ref ad, .ref ac, .ref ab, .int si, .ref ax, .ref aw, .ref an, .ref av, .ref aa])), (af, .inl (cI, 70, .inl fl))]) hP hD [0, 1] [] rfl rfl (by decide) (by decide) hk1 hFc (ht ▸ hB.1) hB.2.2
  have hP := hP.sub (ws' := [(h, .inr (5, [.int (0 : Int32), .ref af, .ref ak, .ref ar, .ref ag, .int le, .int lo, .int da, .ref ad, .ref ac, .ref ab, .int si, .ref ax, .ref aw, .ref an, .ref av, .ref aa])), (af, .inl (cI, 70, .inl fl))]) [0, 1] rfl
  have hD := hD.sub (ws' := [(h, .inr (5, [.int (0 : Int32), .ref af, .ref ak, .ref ar, .ref ag, .int le, .int lo, .int da, .ref ad, .ref ac, .ref ab, .int si, .ref ax, .ref aw, .ref an, .ref av, .ref aa])), (af, .inl (cI, 70, .inl fl))]) [0, 1] (by decide) rfl
  generalize H9 = H at hP hS ⊢
  have e0 : (f_MO_state th le lo da si fl) = ((f_MO_stateNow (0 : Int32) le lo da si fl), (0 : Int32)) := by rw [f_MO_state]
  rw [e0]
  exact W.iret (v := (f_MO_stateNow (0 : Int32) le lo da si fl)) hx hb hr (fun t ht hW => ⟨⟨(f_MO_stateNow (0 : Int32) le lo da si fl), (), rfl, rfl, by rw [ht]; exact hP, va_K.moved hW.alike hK, hD⟩, hS.F ht⟩) hS.2.2 d_MO_state_9
