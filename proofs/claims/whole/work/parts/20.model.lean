/-- so many words have room behind those that stand -/
def ad_ok (si co : Int32) : Prop := 0 ≤ si ∧ 0 ≤ co ∧ si.toInt + co.toInt ≤ 24
def ad_inv (co x y : Int32) : Prop := 0 ≤ x ∧ x ≤ co ∧ 0 ≤ y ∧ y.toInt + (co.toInt - x.toInt) ≤ 24
theorem ad_start {si co : Int32} (h : ad_ok si co) : ad_inv co 0 si := by
  have h2 : (0 : Int32).toInt = 0 := by decide
  refine ⟨by decide, h.2.1, h.1, ?_⟩
  have h3 := h.2.2
  omega
theorem toInt_up {x N : Int32} (h0 : 0 ≤ x) (h1 : ¬ N ≤ x) : (x + 1).toInt = x.toInt + 1 := by
  obtain ⟨j, hj, rfl⟩ := nI_of (Int32.not_lt.mpr h0)
  have hN : ¬ N < 0 := fun h => h1 (Int32.le_of_lt (Int32.lt_of_lt_of_le h h0))
  obtain ⟨k, hk, rfl⟩ := nI_of hN
  rw [nI_leI hk hj] at h1
  rw [nI_1, nI_toInt hj, nI_toInt (show j + 1 < 2 ^ 31 by omega)]
  omega
theorem ad_y {co x y : Int32} (h : ad_inv co x y) (h1 : ¬ co ≤ x) : 0 ≤ y ∧ ¬ 24 ≤ y := by
  refine ⟨h.2.2.1, fun h2 => h1 ?_⟩
  rw [Int32.le_iff_toInt_le] at h2 ⊢
  have h3 := h.2.2.2
  have h4 : (24 : Int32).toInt = 24 := by decide
  omega
theorem ad_ix {co x y : Int32} (h : ad_inv co x y) (h1 : ¬ co ≤ x) : vp_in y 48 := ix_sub 24 48 (ad_y h h1).1 (ad_y h h1).2 rfl (by decide) (by decide)
theorem ad_step {co x y : Int32} (h : ad_inv co x y) (h1 : ¬ co ≤ x) : ad_inv co (x + 1) (y + 1) := by
  have hy := ad_y h h1
  refine ⟨(lp_up h.1 h1).1.1, (lp_up h.1 h1).1.2, (lp_up hy.1 hy.2).1.1, ?_⟩
  rw [toInt_up h.1 h1, toInt_up hy.1 hy.2]
  have h3 := h.2.2.2
  omega
theorem sm_nI {x N : Int32} (k : Nat) (h0 : 0 ≤ x) (h1 : x ≤ N) (hN : N = nI k) (hk : k < 2 ^ 31) : ∃ j : Nat, j ≤ k ∧ x = nI j := by
  obtain ⟨j, hj, rfl⟩ := nI_of (Int32.not_lt.mpr h0)
  subst hN
  exact ⟨j, (nI_leI hj hk).mp h1, rfl⟩
theorem ix_si {x : Int32} (h : 0 ≤ x ∧ x ≤ 24) : vp_in x 48 := by
  obtain ⟨j, hj, rfl⟩ := sm_nI 24 h.1 h.2 rfl (by decide)
  exact vp_in_nI (by omega) (by decide)
theorem en_si {x : Int32} (h : 0 ≤ x ∧ x ≤ 24) : 0 ≤ x + 1 ∧ x + 1 ≤ 30 := by
  obtain ⟨j, hj, rfl⟩ := sm_nI 24 h.1 h.2 rfl (by decide)
  rw [nI_1, show (30 : Int32) = nI 30 from rfl]
  exact ⟨nI_pos' (by omega), (nI_leI (by omega) (by decide)).mpr (by omega)⟩
theorem ms_30 {x : Int32} (h : 0 ≤ x ∧ x ≤ 24) : ((30 : Int32).toInt - (x + 1).toInt).toNat < 31 := by
  have h3 := Int32.le_iff_toInt_le.mp (en_si h).1
  have h4 : (0 : Int32).toInt = 0 := by decide
  have h5 : (30 : Int32).toInt = 30 := by decide
  omega
theorem ix_30 {x : Int32} (h : 0 ≤ x ∧ x ≤ 30) : vp_in x 48 := by
  obtain ⟨j, hj, rfl⟩ := sm_nI 30 h.1 h.2 rfl (by decide)
  exact vp_in_nI (by omega) (by decide)
theorem ix_31 {x : Int32} (h : 0 ≤ x ∧ x ≤ 30) : vp_in (x + 1) 48 := by
  obtain ⟨j, hj, rfl⟩ := sm_nI 30 h.1 h.2 rfl (by decide)
  rw [nI_1]
  exact vp_in_nI (by omega) (by decide)
theorem wh_ne {x : Int32} (h : 0 ≤ x ∧ x ≤ 30) (hn : ¬ x - x / 16 * 16 = 14) : ¬ 30 ≤ x := by
  obtain ⟨j, hj, rfl⟩ := sm_nI 30 h.1 h.2 rfl (by decide)
  intro h2
  rw [show (30 : Int32) = nI 30 from rfl, nI_leI (by decide) (by omega)] at h2
  have h3 : j = 30 := by omega
  subst h3
  exact hn (by decide)
theorem sz_of {x : Int32} (h : 0 ≤ x ∧ x ≤ 30) (hn : x - x / 16 * 16 = 14) : x + 1 + 1 = 16 ∨ x + 1 + 1 = 32 := by
  obtain ⟨j, hj, rfl⟩ := sm_nI 30 h.1 h.2 rfl (by decide)
  rw [show (16 : Int32) = nI 16 from rfl, pk_rem (by omega) (by decide) (by decide), show (14 : Int32) = nI 14 from rfl, nI_eq (by omega) (by decide)] at hn
  have h3 : j = 14 ∨ j = 30 := by omega
  rcases h3 with rfl | rfl
  · exact Or.inl (by decide)
  · exact Or.inr (by decide)
theorem ix_bl48 {b x : Int32} (hb : b = 0 ∨ b = 16) (h0 : 0 ≤ x) (h1 : ¬ 16 ≤ x) : vp_in (b + x) 48 := by
  rcases hb with rfl | rfl
  · exact ix_off 0 48 16 h0 h1 rfl (by decide) (by decide)
  · exact ix_off 16 48 16 h0 h1 rfl (by decide) (by decide)

-- MO_out
theorem d_MO_out_0 : decode prog_8_method_3_code 0 = .ok (.iload_n 0, 1) := by decide +kernel
theorem d_MO_out_1 : decode prog_8_method_3_code 1 = .ok (.ifCond .lt 8, 3) := by decide +kernel
theorem d_MO_out_4 : decode prog_8_method_3_code 4 = .ok (.iload_n 0, 1) := by decide +kernel
theorem d_MO_out_5 : decode prog_8_method_3_code 5 = .ok (.iload_n 1, 1) := by decide +kernel
theorem d_MO_out_6 : decode prog_8_method_3_code 6 = .ok (.if_icmp .lt 7, 3) := by decide +kernel
theorem d_MO_out_9 : decode prog_8_method_3_code 9 = .ok (.iconst 1, 1) := by decide +kernel
theorem d_MO_out_10 : decode prog_8_method_3_code 10 = .ok (.goto 4, 3) := by decide +kernel
theorem d_MO_out_13 : decode prog_8_method_3_code 13 = .ok (.iconst 0, 1) := by decide +kernel
theorem d_MO_out_14 : decode prog_8_method_3_code 14 = .ok (.ireturn, 1) := by decide +kernel
def y_MO_out : MethodName := ⟨"BootChainModel", "out", "(II)Z"⟩
def ws_MO_out : List Cond := .code y_MO_out prog_8_method_3_code 2 (some .boolean) :: bc_G
def f_MO_out (kk_ : Int32) (li : Int32) : Int32 := if kk_ < 0 then (1 : Int32) else if kk_ < li then (0 : Int32) else (1 : Int32)
set_option maxHeartbeats 4000000 in
set_option maxRecDepth 100000 in
theorem c_MO_out (l : Launch) (dC : Nat → ClassId) (dI : Nat → Nat → Nat) (cI cJ : ClassId) (sz : Nat) (kk_ : Int32) (li : Int32) : Met l y_MO_out ws_MO_out ({ frames := 0, cells := 0, slots := 0, locals := 0 } : Room) (va_Pc [.int kk_, .int li] (bc_pre (dC, dI) cI cJ [] sz)) (va_Qi (fun (r : Int32) (_ : Unit) => r = (f_MO_out kk_ li)) (fun _ => bc_post (dC, dI) cI cJ (va_A [] sz) []) (va_A [] sz)) 0 0 (va_A [] sz) := by
  refine Met.ofW (cc := prog_8_method_3_code) (maxL := 2) (ret := (some .boolean)) (by decide) rfl ?_
  intro p e s m args below meth c s₁ B hml hv
  obtain ⟨rfl, hsz, hP, hK, hD0, hE⟩ := hv
  have hx := B.exec
  have hb := B.bytes
  have hr := B.returns
  have hts : ∀ w ∈ bc_G, w.before ([.int kk_, .int li] : List Value).toArray s = true := fun w h => atoms_spec (ws := ws_MO_out) B.pre w (List.mem_cons_of_mem _ h)
  have hown : s.vm.findClass "BootChainModel" = some m.cls := findClass_of_methodNamed B.named
  have hlocks := B.notSynchronized
  subst hsz
  have hD := hD0.self (sz := s.heap.size)
  generalize hAe : va_A [] s.heap.size = A at hD hE ⊢
  have hA : ∀ q : Nat, s.heap.size ≤ q → A q := fun q h => by rw [← hAe]; exact Or.inr h
  have hS : va_S A s.heap s.heap [] := va_S.rf
  have hl := lv_entry ([.int kk_, .int li]) (n := 2) (Nat.le_of_ble_eq_true rfl)
  rw [lg_entry_eq]
  generalize (lg_sl ([.int kk_, .int li]) ++ List.replicate (2 - (lg_sl ([.int kk_, .int li])).length) Slot.unset).toArray = ls at hl ⊢
  have hl : lv_has ls 2 [(0, .int kk_), (1, .int li)] := hl
  refine lv_iload_n hx hb d_MO_out_0 rfl (lv_at hl 0 rfl) ?_
  refine lv_if_lt (tgt := 9) hx hb d_MO_out_1 (by decide) (fun h3 => ?_) (fun h3 => ?_)
  · refine lv_iconst (v := 1) hx hb d_MO_out_9 (by decide) ?_
    refine lv_goto (tgt := 14) hx hb d_MO_out_10 (by decide) ?_
    have e0 : (f_MO_out kk_ li) = (1 : Int32) := by rw [f_MO_out, if_pos h3]
    rw [e0]
    exact W.zret (v := (1 : Int32)) (ty := .boolean) hx hb hr (rfl) (fun t ht hW => ⟨⟨(1 : Int32), (), rfl, rfl, by rw [ht]; exact hP, va_K.moved hW.alike hK, hD⟩, hS.F ht⟩) hS.2.2 d_MO_out_14
  · refine lv_iload_n hx hb d_MO_out_4 rfl (lv_at hl 0 rfl) ?_
    refine lv_iload_n hx hb d_MO_out_5 rfl (lv_at hl 1 rfl) ?_
    refine lv_icmp_lt (tgt := 13) hx hb d_MO_out_6 (by decide) (fun h4 => ?_) (fun h4 => ?_)
    · refine lv_iconst (v := 0) hx hb d_MO_out_13 (by decide) ?_
      have e0 : (f_MO_out kk_ li) = (0 : Int32) := by rw [f_MO_out, if_neg h3, if_pos h4]
      rw [e0]
      exact W.zret (v := (0 : Int32)) (ty := .boolean) hx hb hr (rfl) (fun t ht hW => ⟨⟨(0 : Int32), (), rfl, rfl, by rw [ht]; exact hP, va_K.moved hW.alike hK, hD⟩, hS.F ht⟩) hS.2.2 d_MO_out_14
    · refine lv_iconst (v := 1) hx hb d_MO_out_9 (by decide) ?_
      refine lv_goto (tgt := 14) hx hb d_MO_out_10 (by decide) ?_
      have e0 : (f_MO_out kk_ li) = (1 : Int32) := by rw [f_MO_out, if_neg h3, if_neg h4]
      rw [e0]
      exact W.zret (v := (1 : Int32)) (ty := .boolean) hx hb hr (rfl) (fun t ht hW => ⟨⟨(1 : Int32), (), rfl, rfl, by rw [ht]; exact hP, va_K.moved hW.alike hK, hD⟩, hS.F ht⟩) hS.2.2 d_MO_out_14
-- MO_thrown
theorem d_MO_thrown_0 : decode prog_8_method_2_code 0 = .ok (.aload_n 0, 1) := by decide +kernel
theorem d_MO_thrown_1 : decode prog_8_method_2_code 1 = .ok (.getfield 195, 3) := by decide +kernel
theorem d_MO_thrown_4 : decode prog_8_method_2_code 4 = .ok (.ireturn, 1) := by decide +kernel
def y_MO_thrown : MethodName := ⟨"BootChainModel", "thrown", "()I"⟩
def ws_MO_thrown : List Cond := .code y_MO_thrown prog_8_method_2_code 1 (some .int) :: bc_G
def f_MO_thrown (th : Int32) (le : Int32) (lo : Int32) (da : Int32) (si : Int32) : Int32 := th
set_option maxHeartbeats 4000000 in
set_option maxRecDepth 100000 in
theorem c_MO_thrown (l : Launch) (dC : Nat → ClassId) (dI : Nat → Nat → Nat) (cI cJ : ClassId) (h af ak ar ag ad ac ab ax aw an av aa : Nat) (sz : Nat) (th : Int32) (le : Int32) (lo : Int32) (da : Int32) (si : Int32) : Met l y_MO_thrown ws_MO_thrown ({ frames := 0, cells := 0, slots := 0, locals := 0 } : Room) (va_Pc [.ref h] (bc_pre (dC, dI) cI cJ [(h, .inr (5, [.int th, .ref af, .ref ak, .ref ar, .ref ag, .int le, .int lo, .int da, .ref ad, .ref ac, .ref ab, .int si, .ref ax, .ref aw, .ref an, .ref av, .ref aa]))] sz)) (va_Qi (fun (r : Int32) (_ : Unit) => r = (f_MO_thrown th le lo da si)) (fun _ => bc_post (dC, dI) cI cJ (va_A [(h, .inr (5, [.int th, .ref af, .ref ak, .ref ar, .ref ag, .int le, .int lo, .int da, .ref ad, .ref ac, .ref ab, .int si, .ref ax, .ref aw, .ref an, .ref av, .ref aa]))] sz) [(h, .inr (5, [.int th, .ref af, .ref ak, .ref ar, .ref ag, .int le, .int lo, .int da, .ref ad, .ref ac, .ref ab, .int si, .ref ax, .ref aw, .ref an, .ref av, .ref aa]))]) (va_A [(h, .inr (5, [.int th, .ref af, .ref ak, .ref ar, .ref ag, .int le, .int lo, .int da, .ref ad, .ref ac, .ref ab, .int si, .ref ax, .ref aw, .ref an, .ref av, .ref aa]))] sz)) 0 0 (va_A [(h, .inr (5, [.int th, .ref af, .ref ak, .ref ar, .ref ag, .int le, .int lo, .int da, .ref ad, .ref ac, .ref ab, .int si, .ref ax, .ref aw, .ref an, .ref av, .ref aa]))] sz) := by
  refine Met.ofW (cc := prog_8_method_2_code) (maxL := 1) (ret := (some .int)) (by decide) rfl ?_
  intro p e s m args below meth c s₁ B hml hv
  obtain ⟨rfl, hsz, hP, hK, hD0, hE⟩ := hv
  have hx := B.exec
  have hb := B.bytes
  have hr := B.returns
  have hts : ∀ w ∈ bc_G, w.before ([.ref h] : List Value).toArray s = true := fun w h => atoms_spec (ws := ws_MO_thrown) B.pre w (List.mem_cons_of_mem _ h)
  have hown : s.vm.findClass "BootChainModel" = some m.cls := findClass_of_methodNamed B.named
  have hlocks := B.notSynchronized
  subst hsz
  have hD := hD0.self (sz := s.heap.size)
  generalize hAe : va_A [(h, .inr (5, [.int th, .ref af, .ref ak, .ref ar, .ref ag, .int le, .int lo, .int da, .ref ad, .ref ac, .ref ab, .int si, .ref ax, .ref aw, .ref an, .ref av, .ref aa]))] s.heap.size = A at hD hE ⊢
  have hA : ∀ q : Nat, s.heap.size ≤ q → A q := fun q h => by rw [← hAe]; exact Or.inr h
  have hS : va_S A s.heap s.heap [] := va_S.rf
  have hl := lv_entry ([.ref h]) (n := 1) (Nat.le_of_ble_eq_true rfl)
  rw [lg_entry_eq]
  generalize (lg_sl ([.ref h]) ++ List.replicate (1 - (lg_sl ([.ref h])).length) Slot.unset).toArray = ls at hl ⊢
  have hl : lv_has ls 1 [(0, .ref h)] := hl
  refine lv_aload_n hx hb d_MO_thrown_0 rfl (lv_at hl 0 rfl) ?_
  refine va_get (D := (dC, dI)) (ci := 5) (v := .int th) (C := R_MO) (T := F_MO) (N := 17) hx hb hts in_MO hown hK hP 0 rfl rfl 0 (by decide) (hts _ gw_518) (fun _ h9 => h9) rfl d_MO_thrown_1 ?_
  have e0 : (f_MO_thrown th le lo da si) = th := by rw [f_MO_thrown]
  rw [e0]
  exact W.iret (v := th) hx hb hr (fun t ht hW => ⟨⟨th, (), rfl, rfl, by rw [ht]; exact hP, va_K.moved hW.alike hK, hD⟩, hS.F ht⟩) hS.2.2 d_MO_thrown_4
-- MO_fail
theorem d_MO_fail_0 : decode prog_8_method_4_code 0 = .ok (.aload_n 0, 1) := by decide +kernel
theorem d_MO_fail_1 : decode prog_8_method_4_code 1 = .ok (.iload_n 1, 1) := by decide +kernel
theorem d_MO_fail_2 : decode prog_8_method_4_code 2 = .ok (.putfield 195, 3) := by decide +kernel
theorem d_MO_fail_5 : decode prog_8_method_4_code 5 = .ok (.iconst 0, 1) := by decide +kernel
theorem d_MO_fail_6 : decode prog_8_method_4_code 6 = .ok (.ireturn, 1) := by decide +kernel
def y_MO_fail : MethodName := ⟨"BootChainModel", "fail", "(I)I"⟩
def ws_MO_fail : List Cond := .code y_MO_fail prog_8_method_4_code 2 (some .int) :: bc_G
def f_MO_fail (wy : Int32) (th : Int32) (le : Int32) (lo : Int32) (da : Int32) (si : Int32) : Int32 × Int32 := ((0 : Int32), wy)
set_option maxHeartbeats 4000000 in
set_option maxRecDepth 100000 in
theorem c_MO_fail (l : Launch) (dC : Nat → ClassId) (dI : Nat → Nat → Nat) (cI cJ : ClassId) (h af ak ar ag ad ac ab ax aw an av aa : Nat) (sz : Nat) (wy : Int32) (th : Int32) (le : Int32) (lo : Int32) (da : Int32) (si : Int32) : Met l y_MO_fail ws_MO_fail ({ frames := 0, cells := 0, slots := 0, locals := 0 } : Room) (va_Pc [.ref h, .int wy] (bc_pre (dC, dI) cI cJ [(h, .inr (5, [.int th, .ref af, .ref ak, .ref ar, .ref ag, .int le, .int lo, .int da, .ref ad, .ref ac, .ref ab, .int si, .ref ax, .ref aw, .ref an, .ref av, .ref aa]))] sz)) (va_Qi (fun (r : Int32) (_ : Unit) => r = (f_MO_fail wy th le lo da si).1) (fun _ => bc_post (dC, dI) cI cJ (va_A [(h, .inr (5, [.int th, .ref af, .ref ak, .ref ar, .ref ag, .int le, .int lo, .int da, .ref ad, .ref ac, .ref ab, .int si, .ref ax, .ref aw, .ref an, .ref av, .ref aa]))] sz) [(h, .inr (5, [.int (f_MO_fail wy th le lo da si).2, .ref af, .ref ak, .ref ar, .ref ag, .int le, .int lo, .int da, .ref ad, .ref ac, .ref ab, .int si, .ref ax, .ref aw, .ref an, .ref av, .ref aa]))]) (va_A [(h, .inr (5, [.int th, .ref af, .ref ak, .ref ar, .ref ag, .int le, .int lo, .int da, .ref ad, .ref ac, .ref ab, .int si, .ref ax, .ref aw, .ref an, .ref av, .ref aa]))] sz)) 0 0 (va_A [(h, .inr (5, [.int th, .ref af, .ref ak, .ref ar, .ref ag, .int le, .int lo, .int da, .ref ad, .ref ac, .ref ab, .int si, .ref ax, .ref aw, .ref an, .ref av, .ref aa]))] sz) := by
  refine Met.ofW (cc := prog_8_method_4_code) (maxL := 2) (ret := (some .int)) (by decide) rfl ?_
  intro p e s m args below meth c s₁ B hml hv
  obtain ⟨rfl, hsz, hP, hK, hD0, hE⟩ := hv
  have hx := B.exec
  have hb := B.bytes
  have hr := B.returns
  have hts : ∀ w ∈ bc_G, w.before ([.ref h, .int wy] : List Value).toArray s = true := fun w h => atoms_spec (ws := ws_MO_fail) B.pre w (List.mem_cons_of_mem _ h)
  have hown : s.vm.findClass "BootChainModel" = some m.cls := findClass_of_methodNamed B.named
  have hlocks := B.notSynchronized
  subst hsz
  have hD := hD0.self (sz := s.heap.size)
  generalize hAe : va_A [(h, .inr (5, [.int th, .ref af, .ref ak, .ref ar, .ref ag, .int le, .int lo, .int da, .ref ad, .ref ac, .ref ab, .int si, .ref ax, .ref aw, .ref an, .ref av, .ref aa]))] s.heap.size = A at hD hE ⊢
  have hA : ∀ q : Nat, s.heap.size ≤ q → A q := fun q h => by rw [← hAe]; exact Or.inr h
  have hS : va_S A s.heap s.heap [] := va_S.rf
  have hl := lv_entry ([.ref h, .int wy]) (n := 2) (Nat.le_of_ble_eq_true rfl)
  rw [lg_entry_eq]
  generalize (lg_sl ([.ref h, .int wy]) ++ List.replicate (2 - (lg_sl ([.ref h, .int wy])).length) Slot.unset).toArray = ls at hl ⊢
  have hl : lv_has ls 2 [(0, .ref h), (1, .int wy)] := hl
  refine lv_aload_n hx hb d_MO_fail_0 rfl (lv_at hl 0 rfl) ?_
  refine lv_iload_n hx hb d_MO_fail_1 rfl (lv_at hl 1 rfl) ?_
  refine va_put (D := (dC, dI)) (ci := 5) (v := .int wy) (ty := .int) (C := R_MO) (T := F_MO) (N := 17) hx hb hts in_MO t_MO t_MO_ok n_MO hown hK hP hD hS 0 rfl rfl 0 (by decide) (hts _ gw_518) (fun _ h9 => h9) rfl (by decide +kernel) rfl rfl (Nat.le_of_ble_eq_true rfl) d_MO_fail_2 (fun H locs hP hD hS => ?_)
  have hP : va_P (dC, dI) classes [(h, .inr (5, [.int wy, .ref af, .ref ak, .ref ar, .ref ag, .int le, .int lo, .int da, .ref ad, .ref ac, .ref ab, .int si, .ref ax, .ref aw, .ref an, .ref av, .ref aa]))] H := hP
  have hD : va_D A [(h, .inr (5, [.int wy, .ref af, .ref ak, .ref ar, .ref ag, .int le, .int lo, .int da, .ref ad, .ref ac, .ref ab, .int si, .ref ax, .ref aw, .ref an, .ref av, .ref aa]))] := hD
  refine lv_iconst (v := 0) hx hb d_MO_fail_5 (by decide) ?_
  have e0 : (f_MO_fail wy th le lo da si) = ((0 : Int32), wy) := by rw [f_MO_fail]
  rw [e0]
  exact W.iret (v := (0 : Int32)) hx hb hr (fun t ht hW => ⟨⟨(0 : Int32), (), rfl, rfl, by rw [ht]; exact hP, va_K.moved hW.alike hK, hD⟩, hS.F ht⟩) hS.2.2 d_MO_fail_6
-- MO_turned
theorem d_MO_turned_0 : decode prog_8_method_8_code 0 = .ok (.lload_n 0, 1) := by decide +kernel
theorem d_MO_turned_1 : decode prog_8_method_8_code 1 = .ok (.iload_n 2, 1) := by decide +kernel
theorem d_MO_turned_2 : decode prog_8_method_8_code 2 = .ok (.lshr, 1) := by decide +kernel
theorem d_MO_turned_3 : decode prog_8_method_8_code 3 = .ok (.lload_n 0, 1) := by decide +kernel
theorem d_MO_turned_4 : decode prog_8_method_8_code 4 = .ok (.bipush 32, 2) := by decide +kernel
theorem d_MO_turned_6 : decode prog_8_method_8_code 6 = .ok (.iload_n 2, 1) := by decide +kernel
theorem d_MO_turned_7 : decode prog_8_method_8_code 7 = .ok (.isub, 1) := by decide +kernel
theorem d_MO_turned_8 : decode prog_8_method_8_code 8 = .ok (.lshl, 1) := by decide +kernel
theorem d_MO_turned_9 : decode prog_8_method_8_code 9 = .ok (.lor, 1) := by decide +kernel
theorem d_MO_turned_10 : decode prog_8_method_8_code 10 = .ok (.ldc2_w 201, 3) := by decide +kernel
theorem d_MO_turned_13 : decode prog_8_method_8_code 13 = .ok (.land, 1) := by decide +kernel
theorem d_MO_turned_14 : decode prog_8_method_8_code 14 = .ok (.lreturn, 1) := by decide +kernel
def y_MO_turned : MethodName := ⟨"BootChainModel", "turned", "(JI)J"⟩
def ws_MO_turned : List Cond := .code y_MO_turned prog_8_method_8_code 3 (some .long) :: bc_G
def f_MO_turned (w0 : Int64) (by_ : Int32) : Int64 := (((jsr w0 by_) ||| (jsl w0 ((32 : Int32) - by_))) &&& (4294967295 : Int64))
set_option maxHeartbeats 4000000 in
set_option maxRecDepth 100000 in
theorem c_MO_turned (l : Launch) (dC : Nat → ClassId) (dI : Nat → Nat → Nat) (cI cJ : ClassId) (sz : Nat) (w0 : Int64) (by_ : Int32) : Met l y_MO_turned ws_MO_turned ({ frames := 0, cells := 0, slots := 0, locals := 0 } : Room) (va_Pc [.long w0, .int by_] (bc_pre (dC, dI) cI cJ [] sz)) (va_Ql (fun (r : Int64) (_ : Unit) => r = (f_MO_turned w0 by_)) (fun _ => bc_post (dC, dI) cI cJ (va_A [] sz) []) (va_A [] sz)) 0 0 (va_A [] sz) := by
  refine Met.ofW (cc := prog_8_method_8_code) (maxL := 3) (ret := (some .long)) (by decide) rfl ?_
  intro p e s m args below meth c s₁ B hml hv
  obtain ⟨rfl, hsz, hP, hK, hD0, hE⟩ := hv
  have hx := B.exec
  have hb := B.bytes
  have hr := B.returns
  have hts : ∀ w ∈ bc_G, w.before ([.long w0, .int by_] : List Value).toArray s = true := fun w h => atoms_spec (ws := ws_MO_turned) B.pre w (List.mem_cons_of_mem _ h)
  have hown : s.vm.findClass "BootChainModel" = some m.cls := findClass_of_methodNamed B.named
  have hlocks := B.notSynchronized
  subst hsz
  have hD := hD0.self (sz := s.heap.size)
  generalize hAe : va_A [] s.heap.size = A at hD hE ⊢
  have hA : ∀ q : Nat, s.heap.size ≤ q → A q := fun q h => by rw [← hAe]; exact Or.inr h
  have hS : va_S A s.heap s.heap [] := va_S.rf
  have hl := lv_entry ([.long w0, .int by_]) (n := 3) (Nat.le_of_ble_eq_true rfl)
  rw [lg_entry_eq]
  generalize (lg_sl ([.long w0, .int by_]) ++ List.replicate (3 - (lg_sl ([.long w0, .int by_])).length) Slot.unset).toArray = ls at hl ⊢
  have hl : lv_has ls 3 [(0, .long w0), (2, .int by_)] := hl
  refine lv_lload_n hx hb d_MO_turned_0 rfl (lv_at hl 0 rfl) ?_
  refine lv_iload_n hx hb d_MO_turned_1 rfl (lv_at hl 1 rfl) ?_
  refine lv_lshr (v := (jsr w0 by_)) hx hb d_MO_turned_2 rfl ?_
  refine lv_lload_n hx hb d_MO_turned_3 rfl (lv_at hl 0 rfl) ?_
  refine lv_bipush (v := 32) hx hb d_MO_turned_4 (by decide) ?_
  refine lv_iload_n hx hb d_MO_turned_6 rfl (lv_at hl 1 rfl) ?_
  refine lv_isub hx hb d_MO_turned_7 ?_
  refine lv_lshl (v := (jsl w0 ((32 : Int32) - by_))) hx hb d_MO_turned_8 rfl ?_
  refine lv_lor hx hb d_MO_turned_9 ?_
  refine lv_ldc2 (v := 4294967295) hx hb hown (hts _ gw_579) d_MO_turned_10 ?_
  refine lv_land hx hb d_MO_turned_13 ?_
  have e0 : (f_MO_turned w0 by_) = (((jsr w0 by_) ||| (jsl w0 ((32 : Int32) - by_))) &&& (4294967295 : Int64)) := by rw [f_MO_turned]
  rw [e0]
  exact W.lret (v := (((jsr w0 by_) ||| (jsl w0 ((32 : Int32) - by_))) &&& (4294967295 : Int64))) hx hb hr (fun t ht hW => ⟨⟨(((jsr w0 by_) ||| (jsl w0 ((32 : Int32) - by_))) &&& (4294967295 : Int64)), (), rfl, rfl, by rw [ht]; exact hP, va_K.moved hW.alike hK, hD⟩, hS.F ht⟩) hS.2.2 d_MO_turned_14
-- MO_add
theorem d_MO_add_0 : decode prog_8_method_5_code 0 = .ok (.aload_n 0, 1) := by decide +kernel
theorem d_MO_add_1 : decode prog_8_method_5_code 1 = .ok (.getfield 36, 3) := by decide +kernel
theorem d_MO_add_4 : decode prog_8_method_5_code 4 = .ok (.aload_n 0, 1) := by decide +kernel
theorem d_MO_add_5 : decode prog_8_method_5_code 5 = .ok (.getfield 198, 3) := by decide +kernel
theorem d_MO_add_8 : decode prog_8_method_5_code 8 = .ok (.iload_n 1, 1) := by decide +kernel
theorem d_MO_add_9 : decode prog_8_method_5_code 9 = .ok (.i2l, 1) := by decide +kernel
theorem d_MO_add_10 : decode prog_8_method_5_code 10 = .ok (.ldc2_w 201, 3) := by decide +kernel
theorem d_MO_add_13 : decode prog_8_method_5_code 13 = .ok (.land, 1) := by decide +kernel
theorem d_MO_add_14 : decode prog_8_method_5_code 14 = .ok (.lastore, 1) := by decide +kernel
theorem d_MO_add_15 : decode prog_8_method_5_code 15 = .ok (.aload_n 0, 1) := by decide +kernel
theorem d_MO_add_16 : decode prog_8_method_5_code 16 = .ok (.dup, 1) := by decide +kernel
theorem d_MO_add_17 : decode prog_8_method_5_code 17 = .ok (.getfield 198, 3) := by decide +kernel
theorem d_MO_add_20 : decode prog_8_method_5_code 20 = .ok (.iconst 1, 1) := by decide +kernel
theorem d_MO_add_21 : decode prog_8_method_5_code 21 = .ok (.iadd, 1) := by decide +kernel
theorem d_MO_add_22 : decode prog_8_method_5_code 22 = .ok (.putfield 198, 3) := by decide +kernel
theorem d_MO_add_25 : decode prog_8_method_5_code 25 = .ok (.return_, 1) := by decide +kernel
def y_MO_add : MethodName := ⟨"BootChainModel", "add", "(I)V"⟩
def ws_MO_add : List Cond := .code y_MO_add prog_8_method_5_code 2 none :: bc_G
def f_MO_add (wo : Int32) (th : Int32) (le : Int32) (lo : Int32) (da : Int32) (si : Int32) (tx : Nat → Int64) : Int32 × (Nat → Int64) := ((si + (1 : Int32)), (vp_updL tx (si).toNatClampNeg (((wo).toInt64) &&& (4294967295 : Int64))))
set_option maxHeartbeats 4000000 in
set_option maxRecDepth 100000 in
theorem c_MO_add (l : Launch) (dC : Nat → ClassId) (dI : Nat → Nat → Nat) (cI cJ : ClassId) (h af ak ar ag ad ac ab ax aw an av aa : Nat) (sz : Nat) (wo : Int32) (th : Int32) (le : Int32) (lo : Int32) (da : Int32) (si : Int32) (tx : Nat → Int64) (hix : vp_in si 48) : Met l y_MO_add ws_MO_add ({ frames := 0, cells := 0, slots := 0, locals := 0 } : Room) (va_Pc [.ref h, .int wo] (bc_pre (dC, dI) cI cJ [(h, .inr (5, [.int th, .ref af, .ref ak, .ref ar, .ref ag, .int le, .int lo, .int da, .ref ad, .ref ac, .ref ab, .int si, .ref ax, .ref aw, .ref an, .ref av, .ref aa])), (ax, .inl (cJ, 48, .inr (.inl tx)))] sz)) (va_Qv (fun (_ : Unit) => True) (fun _ => bc_post (dC, dI) cI cJ (va_A [(h, .inr (5, [.int th, .ref af, .ref ak, .ref ar, .ref ag, .int le, .int lo, .int da, .ref ad, .ref ac, .ref ab, .int si, .ref ax, .ref aw, .ref an, .ref av, .ref aa])), (ax, .inl (cJ, 48, .inr (.inl tx)))] sz) [(h, .inr (5, [.int th, .ref af, .ref ak, .ref ar, .ref ag, .int le, .int lo, .int da, .ref ad, .ref ac, .ref ab, .int (f_MO_add wo th le lo da si tx).1, .ref ax, .ref aw, .ref an, .ref av, .ref aa])), (ax, .inl (cJ, 48, .inr (.inl (f_MO_add wo th le lo da si tx).2)))]) (va_A [(h, .inr (5, [.int th, .ref af, .ref ak, .ref ar, .ref ag, .int le, .int lo, .int da, .ref ad, .ref ac, .ref ab, .int si, .ref ax, .ref aw, .ref an, .ref av, .ref aa])), (ax, .inl (cJ, 48, .inr (.inl tx)))] sz)) 0 0 (va_A [(h, .inr (5, [.int th, .ref af, .ref ak, .ref ar, .ref ag, .int le, .int lo, .int da, .ref ad, .ref ac, .ref ab, .int si, .ref ax, .ref aw, .ref an, .ref av, .ref aa])), (ax, .inl (cJ, 48, .inr (.inl tx)))] sz) := by
  refine Met.ofW (cc := prog_8_method_5_code) (maxL := 2) (ret := none) (by decide) rfl ?_
  intro p e s m args below meth c s₁ B hml hv
  obtain ⟨rfl, hsz, hP, hK, hD0, hE⟩ := hv
  have hx := B.exec
  have hb := B.bytes
  have hr := B.returns
  have hts : ∀ w ∈ bc_G, w.before ([.ref h, .int wo] : List Value).toArray s = true := fun w h => atoms_spec (ws := ws_MO_add) B.pre w (List.mem_cons_of_mem _ h)
  have hown : s.vm.findClass "BootChainModel" = some m.cls := findClass_of_methodNamed B.named
  have hlocks := B.notSynchronized
  subst hsz
  have hD := hD0.self (sz := s.heap.size)
  generalize hAe : va_A [(h, .inr (5, [.int th, .ref af, .ref ak, .ref ar, .ref ag, .int le, .int lo, .int da, .ref ad, .ref ac, .ref ab, .int si, .ref ax, .ref aw, .ref an, .ref av, .ref aa])), (ax, .inl (cJ, 48, .inr (.inl tx)))] s.heap.size = A at hD hE ⊢
  have hA : ∀ q : Nat, s.heap.size ≤ q → A q := fun q h => by rw [← hAe]; exact Or.inr h
  have hS : va_S A s.heap s.heap [] := va_S.rf
  have hl := lv_entry ([.ref h, .int wo]) (n := 2) (Nat.le_of_ble_eq_true rfl)
  rw [lg_entry_eq]
  generalize (lg_sl ([.ref h, .int wo]) ++ List.replicate (2 - (lg_sl ([.ref h, .int wo])).length) Slot.unset).toArray = ls at hl ⊢
  have hl : lv_has ls 2 [(0, .ref h), (1, .int wo)] := hl
  refine lv_aload_n hx hb d_MO_add_0 rfl (lv_at hl 0 rfl) ?_
  refine va_get (D := (dC, dI)) (ci := 5) (v := .ref ax) (C := R_MO) (T := F_MO) (N := 17) hx hb hts in_MO hown hK hP 0 rfl rfl 12 (by decide) (hts _ gw_530) (fun _ h9 => h9) rfl d_MO_add_1 ?_
  refine lv_aload_n hx hb d_MO_add_4 rfl (lv_at hl 0 rfl) ?_
  refine va_get (D := (dC, dI)) (ci := 5) (v := .int si) (C := R_MO) (T := F_MO) (N := 17) hx hb hts in_MO hown hK hP 0 rfl rfl 11 (by decide) (hts _ gw_529) (fun _ h9 => h9) rfl d_MO_add_5 ?_
  refine lv_iload_n hx hb d_MO_add_8 rfl (lv_at hl 1 rfl) ?_
  refine lv_i2l (v := ((wo).toInt64)) hx hb d_MO_add_9 rfl ?_
  refine lv_ldc2 (v := 4294967295) hx hb hown (hts _ gw_579) d_MO_add_10 ?_
  refine lv_land hx hb d_MO_add_13 ?_
  refine va_last hx hb hK hP hD hS 1 1 rfl rfl (hix) d_MO_add_14 (fun H locs hP hD hS => ?_)
  have hP : va_P (dC, dI) classes [(h, .inr (5, [.int th, .ref af, .ref ak, .ref ar, .ref ag, .int le, .int lo, .int da, .ref ad, .ref ac, .ref ab, .int si, .ref ax, .ref aw, .ref an, .ref av, .ref aa])), (ax, .inl (cJ, 48, .inr (.inl (vp_updL tx (si).toNatClampNeg (((wo).toInt64) &&& (4294967295 : Int64))))))] H := hP
  have hD : va_D A [(h, .inr (5, [.int th, .ref af, .ref ak, .ref ar, .ref ag, .int le, .int lo, .int da, .ref ad, .ref ac, .ref ab, .int si, .ref ax, .ref aw, .ref an, .ref av, .ref aa])), (ax, .inl (cJ, 48, .inr (.inl (vp_updL tx (si).toNatClampNeg (((wo).toInt64) &&& (4294967295 : Int64))))))] := hD
  refine lv_aload_n hx hb d_MO_add_15 rfl (lv_at hl 0 rfl) ?_
  refine lv_dup hx hb d_MO_add_16 rfl ?_
  refine va_get (D := (dC, dI)) (ci := 5) (v := .int si) (C := R_MO) (T := F_MO) (N := 17) hx hb hts in_MO hown hK hP 0 rfl rfl 11 (by decide) (hts _ gw_529) (fun _ h9 => h9) rfl d_MO_add_17 ?_
  refine lv_iconst (v := 1) hx hb d_MO_add_20 (by decide) ?_
  refine lv_iadd hx hb d_MO_add_21 ?_
  refine va_put (D := (dC, dI)) (ci := 5) (v := .int (si + (1 : Int32))) (ty := .int) (C := R_MO) (T := F_MO) (N := 17) hx hb hts in_MO t_MO t_MO_ok n_MO hown hK hP hD hS 0 rfl rfl 11 (by decide) (hts _ gw_529) (fun _ h9 => h9) rfl (by decide +kernel) rfl rfl (Nat.le_of_ble_eq_true rfl) d_MO_add_22 (fun H locs hP hD hS => ?_)
  have hP : va_P (dC, dI) classes [(h, .inr (5, [.int th, .ref af, .ref ak, .ref ar, .ref ag, .int le, .int lo, .int da, .ref ad, .ref ac, .ref ab, .int (si + (1 : Int32)), .ref ax, .ref aw, .ref an, .ref av, .ref aa])), (ax, .inl (cJ, 48, .inr (.inl (vp_updL tx (si).toNatClampNeg (((wo).toInt64) &&& (4294967295 : Int64))))))] H := hP
  have hD : va_D A [(h, .inr (5, [.int th, .ref af, .ref ak, .ref ar, .ref ag, .int le, .int lo, .int da, .ref ad, .ref ac, .ref ab, .int (si + (1 : Int32)), .ref ax, .ref aw, .ref an, .ref av, .ref aa])), (ax, .inl (cJ, 48, .inr (.inl (vp_updL tx (si).toNatClampNeg (((wo).toInt64) &&& (4294967295 : Int64))))))] := hD
  have e0 : (f_MO_add wo th le lo da si tx) = ((si + (1 : Int32)), (vp_updL tx (si).toNatClampNeg (((wo).toInt64) &&& (4294967295 : Int64)))) := by rw [f_MO_add]
  rw [e0]
  exact W.vret hx hb hr (fun t ht hW => ⟨⟨(), rfl, trivial, by rw [ht]; exact hP, va_K.moved hW.alike hK, hD⟩, hS.F ht⟩) hS.2.2 d_MO_add_25
-- MO_addFrom
theorem d_MO_addFrom_0 : decode prog_8_method_6_code 0 = .ok (.iconst 0, 1) := by decide +kernel
theorem d_MO_addFrom_1 : decode prog_8_method_6_code 1 = .ok (.istore 4, 2) := by decide +kernel
theorem d_MO_addFrom_3 : decode prog_8_method_6_code 3 = .ok (.iload 4, 2) := by decide +kernel
theorem d_MO_addFrom_5 : decode prog_8_method_6_code 5 = .ok (.iload_n 3, 1) := by decide +kernel
theorem d_MO_addFrom_6 : decode prog_8_method_6_code 6 = .ok (.if_icmp .ge 19, 3) := by decide +kernel
theorem d_MO_addFrom_9 : decode prog_8_method_6_code 9 = .ok (.aload_n 0, 1) := by decide +kernel
theorem d_MO_addFrom_10 : decode prog_8_method_6_code 10 = .ok (.aload_n 1, 1) := by decide +kernel
theorem d_MO_addFrom_11 : decode prog_8_method_6_code 11 = .ok (.iload_n 2, 1) := by decide +kernel
theorem d_MO_addFrom_12 : decode prog_8_method_6_code 12 = .ok (.iload 4, 2) := by decide +kernel
theorem d_MO_addFrom_14 : decode prog_8_method_6_code 14 = .ok (.iadd, 1) := by decide +kernel
theorem d_MO_addFrom_15 : decode prog_8_method_6_code 15 = .ok (.iaload, 1) := by decide +kernel
theorem d_MO_addFrom_16 : decode prog_8_method_6_code 16 = .ok (.invokevirtual 203, 3) := by decide +kernel
theorem d_MO_addFrom_19 : decode prog_8_method_6_code 19 = .ok (.iinc 4 1, 3) := by decide +kernel
theorem d_MO_addFrom_22 : decode prog_8_method_6_code 22 = .ok (.goto (-19), 3) := by decide +kernel
theorem d_MO_addFrom_25 : decode prog_8_method_6_code 25 = .ok (.return_, 1) := by decide +kernel
def y_MO_addFrom : MethodName := ⟨"BootChainModel", "addFrom", "([III)V"⟩
def ws_MO_addFrom : List Cond := .code y_MO_addFrom prog_8_method_6_code 5 none :: bc_G
def f_MO_addFrom_3 (N : Nat) (fr : Int32) (co : Int32) (th : Int32) (le : Int32) (lo : Int32) (da : Int32) (si : Int32) (tx : Nat → Int64) (rr : Nat → Int32) : Nat → Int32 → Int32 → (Nat → Int64) → Int32 × (Nat → Int64)
  | 0, x4, y0_11, y1 => (y0_11, y1)
  | n + 1, x4, y0_11, y1 => if co ≤ x4 then (y0_11, y1) else f_MO_addFrom_3 N fr co th le lo da si tx rr n (x4 + (1 : Int32)) ((f_MO_add (rr ((fr + x4)).toNatClampNeg) th le lo da y0_11 y1).1) ((f_MO_add (rr ((fr + x4)).toNatClampNeg) th le lo da y0_11 y1).2)
def f_MO_addFrom (N : Nat) (fr : Int32) (co : Int32) (th : Int32) (le : Int32) (lo : Int32) (da : Int32) (si : Int32) (tx : Nat → Int64) (rr : Nat → Int32) : Int32 × (Nat → Int64) := f_MO_addFrom_3 N fr co th le lo da si tx rr (co.toInt.toNat + 1) (0 : Int32) si tx
set_option maxHeartbeats 4000000 in
set_option maxRecDepth 100000 in
theorem c_MO_addFrom (l : Launch) (dC : Nat → ClassId) (dI : Nat → Nat → Nat) (cI cJ : ClassId) (h rh af ak ar ag ad ac ab ax aw an av aa : Nat) (sz : Nat) (N : Nat) (fr : Int32) (co : Int32) (th : Int32) (le : Int32) (lo : Int32) (da : Int32) (si : Int32) (tx : Nat → Int64) (rr : Nat → Int32) (hco : ad_ok si co) (hro : ∀ x : Int32, 0 ≤ x → ¬ co ≤ x → vp_in (fr + x) N) : Met l y_MO_addFrom ws_MO_addFrom ({ frames := 1, cells := 0, slots := 0, locals := 21 } : Room) (va_Pc [.ref h, .ref rh, .int fr, .int co] (bc_pre (dC, dI) cI cJ [(h, .inr (5, [.int th, .ref af, .ref ak, .ref ar, .ref ag, .int le, .int lo, .int da, .ref ad, .ref ac, .ref ab, .int si, .ref ax, .ref aw, .ref an, .ref av, .ref aa])), (ax, .inl (cJ, 48, .inr (.inl tx))), (rh, .inl (cI, N, .inl rr))] sz)) (va_Qv (fun (_ : Unit) => True) (fun _ => bc_post (dC, dI) cI cJ (va_A [(h, .inr (5, [.int th, .ref af, .ref ak, .ref ar, .ref ag, .int le, .int lo, .int da, .ref ad, .ref ac, .ref ab, .int si, .ref ax, .ref aw, .ref an, .ref av, .ref aa])), (ax, .inl (cJ, 48, .inr (.inl tx))), (rh, .inl (cI, N, .inl rr))] sz) [(h, .inr (5, [.int th, .ref af, .ref ak, .ref ar, .ref ag, .int le, .int lo, .int da, .ref ad, .ref ac, .ref ab, .int (f_MO_addFrom N fr co th le lo da si tx rr).1, .ref ax, .ref aw, .ref an, .ref av, .ref aa])), (ax, .inl (cJ, 48, .inr (.inl (f_MO_addFrom N fr co th le lo da si tx rr).2))), (rh, .inl (cI, N, .inl rr))]) (va_A [(h, .inr (5, [.int th, .ref af, .ref ak, .ref ar, .ref ag, .int le, .int lo, .int da, .ref ad, .ref ac, .ref ab, .int si, .ref ax, .ref aw, .ref an, .ref av, .ref aa])), (ax, .inl (cJ, 48, .inr (.inl tx))), (rh, .inl (cI, N, .inl rr))] sz)) 0 0 (va_A [(h, .inr (5, [.int th, .ref af, .ref ak, .ref ar, .ref ag, .int le, .int lo, .int da, .ref ad, .ref ac, .ref ab, .int si, .ref ax, .ref aw, .ref an, .ref av, .ref aa])), (ax, .inl (cJ, 48, .inr (.inl tx))), (rh, .inl (cI, N, .inl rr))] sz) := by
  refine Met.ofW (cc := prog_8_method_6_code) (maxL := 5) (ret := none) (by decide) rfl ?_
  intro p e s m args below meth c s₁ B hml hv
  obtain ⟨rfl, hsz, hP, hK, hD0, hE⟩ := hv
  have hx := B.exec
  have hb := B.bytes
  have hr := B.returns
  have hts : ∀ w ∈ bc_G, w.before ([.ref h, .ref rh, .int fr, .int co] : List Value).toArray s = true := fun w h => atoms_spec (ws := ws_MO_addFrom) B.pre w (List.mem_cons_of_mem _ h)
  have hown : s.vm.findClass "BootChainModel" = some m.cls := findClass_of_methodNamed B.named
  have hlocks := B.notSynchronized
  subst hsz
  have hD := hD0.self (sz := s.heap.size)
  generalize hAe : va_A [(h, .inr (5, [.int th, .ref af, .ref ak, .ref ar, .ref ag, .int le, .int lo, .int da, .ref ad, .ref ac, .ref ab, .int si, .ref ax, .ref aw, .ref an, .ref av, .ref aa])), (ax, .inl (cJ, 48, .inr (.inl tx))), (rh, .inl (cI, N, .inl rr))] s.heap.size = A at hD hE ⊢
  have hA : ∀ q : Nat, s.heap.size ≤ q → A q := fun q h => by rw [← hAe]; exact Or.inr h
  have hS : va_S A s.heap s.heap [] := va_S.rf
  have lp_3 : ∀ (n : Nat) (x4 : Int32) (y0_11 : Int32) (y1 : Nat → Int64) (H : Heap) (locs : List Loc) (ls : Array Slot), ad_inv co x4 y0_11 → (co.toInt - x4.toInt).toNat < n → lv_has ls 5 [(0, .ref h), (1, .ref rh), (2, .int fr), (3, .int co), (4, .int x4)] → va_P (dC, dI) classes [(h, .inr (5, [.int th, .ref af, .ref ak, .ref ar, .ref ag, .int le, .int lo, .int da, .ref ad, .ref ac, .ref ab, .int y0_11, .ref ax, .ref aw, .ref an, .ref av, .ref aa])), (ax, .inl (cJ, 48, .inr (.inl y1))), (rh, .inl (cI, N, .inl rr))] H → va_D A [(h, .inr (5, [.int th, .ref af, .ref ak, .ref ar, .ref ag, .int le, .int lo, .int da, .ref ad, .ref ac, .ref ab, .int y0_11, .ref ax, .ref aw, .ref an, .ref av, .ref aa])), (ax, .inl (cJ, 48, .inr (.inl y1))), (rh, .inl (cI, N, .inl rr))] → va_S A s.heap H locs → W p l e (headSpec ws_MO_addFrom ({ frames := 1, cells := 0, slots := 0, locals := 21 } : Room)).room s m ([.ref h, .ref rh, .int fr, .int co] : List Value).toArray below meth c H locs 0 0 (MQ below (va_Qv (fun (_ : Unit) => True) (fun _ => bc_post (dC, dI) cI cJ A [(h, .inr (5, [.int th, .ref af, .ref ak, .ref ar, .ref ag, .int le, .int lo, .int da, .ref ad, .ref ac, .ref ab, .int (f_MO_addFrom_3 N fr co th le lo da si tx rr n x4 y0_11 y1).1, .ref ax, .ref aw, .ref an, .ref av, .ref aa])), (ax, .inl (cJ, 48, .inr (.inl (f_MO_addFrom_3 N fr co th le lo da si tx rr n x4 y0_11 y1).2))), (rh, .inl (cI, N, .inl rr))]) A) ([.ref h, .ref rh, .int fr, .int co] : List Value).toArray s 0 0 A) (F0 m 3 ls []) := by
    intro n
    induction n with
    | zero => intro x4 y0_11 y1 H locs ls hI hm; exact absurd hm (Nat.not_lt_zero _)
    | succ n ih =>
      intro x4 y0_11 y1 H locs ls hI hm hl hP hD hS
      refine lv_iload hx hb d_MO_addFrom_3 (lv_at hl 4 rfl) ?_
      refine lv_iload_n hx hb d_MO_addFrom_5 rfl (lv_at hl 3 rfl) ?_
      refine lv_icmp_ge (tgt := 25) hx hb d_MO_addFrom_6 (by decide) (fun h2 => ?_) (fun h2 => ?_)
      · have e0 : (f_MO_addFrom_3 N fr co th le lo da si tx rr (n + 1) x4 y0_11 y1) = (y0_11, y1) := by rw [f_MO_addFrom_3, if_pos h2]
        rw [e0]
        exact W.vret hx hb hr (fun t ht hW => ⟨⟨(), rfl, trivial, by rw [ht]; exact hP, va_K.moved hW.alike hK, hD⟩, hS.F ht⟩) hS.2.2 d_MO_addFrom_25
      · refine lv_aload_n hx hb d_MO_addFrom_9 rfl (lv_at hl 0 rfl) ?_
        refine lv_aload_n hx hb d_MO_addFrom_10 rfl (lv_at hl 1 rfl) ?_
        refine lv_iload_n hx hb d_MO_addFrom_11 rfl (lv_at hl 2 rfl) ?_
        refine lv_iload hx hb d_MO_addFrom_12 (lv_at hl 4 rfl) ?_
        refine lv_iadd hx hb d_MO_addFrom_14 ?_
        refine va_iald hx hb hK hP 2 0 rfl rfl (by exact hro _ hI.1 (by assumption)) d_MO_addFrom_15 ?_
        have hPc := hP.sub (ws' := [(h, .inr (5, [.int th, .ref af, .ref ak, .ref ar, .ref ag, .int le, .int lo, .int da, .ref ad, .ref ac, .ref ab, .int y0_11, .ref ax, .ref aw, .ref an, .ref av, .ref aa])), (ax, .inl (cJ, 48, .inr (.inl y1)))]) [0, 1] rfl
        have hDc := hD.sub (ws' := [(h, .inr (5, [.int th, .ref af, .ref ak, .ref ar, .ref ag, .int le, .int lo, .int da, .ref ad, .ref ac, .ref ab, .int y0_11, .ref ax, .ref aw, .ref an, .ref av, .ref aa])), (ax, .inl (cJ, 48, .inr (.inl y1)))]) [0, 1] (by decide) rfl
        have hFc := va_free (wc := [(h, .inr (5, [.int th, .ref af, .ref ak, .ref ar, .ref ag, .int le, .int lo, .int da, .ref ad, .ref ac, .ref ab, .int y0_11, .ref ax, .ref aw, .ref an, .ref av, .ref aa])), (ax, .inl (cJ, 48, .inr (.inl y1)))]) hD hS hA [0, 1] rfl
        refine va_callv (va_runV (As := [.int (rr ((fr + x4)).toNatClampNeg)]) (rest := []) ⟨hx, hb, hml, hown, hts⟩ (c_MO_add l dC dI cI cJ h af ak ar ag ad ac ab ax aw an av aa _ (rr ((fr + x4)).toNatClampNeg) th le lo da y0_11 y1 (ad_ix hI (by assumption))) ⟨callB_of 1 hts (bc_good gw_591) rfl rfl rfl (hts _ gw_6) (hts _ gw_589) (by decide +kernel) ⟨Nat.le_of_ble_eq_true rfl, Nat.le_of_ble_eq_true rfl⟩, (hts _ gw_590), (hts _ gw_711)⟩ ⟨bc_blind, va_recv (q0 := 0) hK hP (q := (R_MO, F_MO, 17)) rfl rfl, fun U hU hW => ⟨rfl, bc_give hPc hDc hK hE hS hFc U hU hW⟩⟩ rfl rfl hl.1 rfl (lv_room (Nat.le_of_ble_eq_true rfl)) d_MO_addFrom_16 ⟨Nat.le_of_ble_eq_true rfl, Nat.le_of_ble_eq_true rfl⟩) hS (fun q _ h => hFc q h) hFc (fun u t H9 locs ht hvm hp hB hz1 hk1 hS => ?_)
        obtain ⟨hP, hD⟩ := va_join (wr := [(rh, .inl (cI, N, .inl rr))]) (w1 := [(h, .inr (5, [.int th, .ref af, .ref ak, .ref ar, .ref ag, .int le, .int lo, .int da, .ref ad, .ref ac, .ref ab, .int ((f_MO_add (rr ((fr + x4)).toNatClampNeg) th le lo da y0_11 y1).1), .ref ax, .ref aw, .ref an, .ref av, .ref aa])), (ax, .inl (cJ, 48, .inr (.inl ((f_MO_add (rr ((fr + x4)).toNatClampNeg) th le lo da y0_11 y1).2))))]) hP hD [0, 1] [2] rfl rfl (by decide) (by decide) hk1 hFc (ht ▸ hB.1) hB.2.2
        have hP := hP.sub (ws' := [(h, .inr (5, [.int th, .ref af, .ref ak, .ref ar, .ref ag, .int le, .int lo, .int da, .ref ad, .ref ac, .ref ab, .int ((f_MO_add (rr ((fr + x4)).toNatClampNeg) th le lo da y0_11 y1).1), .ref ax, .ref aw, .ref an, .ref av, .ref aa])), (ax, .inl (cJ, 48, .inr (.inl ((f_MO_add (rr ((fr + x4)).toNatClampNeg) th le lo da y0_11 y1).2)))), (rh, .inl (cI, N, .inl rr))]) [1, 2, 0] rfl
        have hD := hD.sub (ws' := [(h, .inr (5, [.int th, .ref af, .ref ak, .ref ar, .ref ag, .int le, .int lo, .int da, .ref ad, .ref ac, .ref ab, .int ((f_MO_add (rr ((fr + x4)).toNatClampNeg) th le lo da y0_11 y1).1), .ref ax, .ref aw, .ref an, .ref av, .ref aa])), (ax, .inl (cJ, 48, .inr (.inl ((f_MO_add (rr ((fr + x4)).toNatClampNeg) th le lo da y0_11 y1).2)))), (rh, .inl (cI, N, .inl rr))]) [1, 2, 0] (by decide) rfl
        generalize H9 = H at hP hS ⊢
        refine lv_iinc (k := 4) (v := (x4 + (1 : Int32))) (lv' := [(4, .int (x4 + (1 : Int32))), (0, .ref h), (1, .ref rh), (2, .int fr), (3, .int co)]) hx hb d_MO_addFrom_19 hl rfl rfl (by decide) rfl (fun ls hl => ?_)
        refine lv_goto (tgt := 3) hx hb d_MO_addFrom_22 (by decide) ?_
        have e0 : (f_MO_addFrom_3 N fr co th le lo da si tx rr (n + 1) x4 y0_11 y1) = f_MO_addFrom_3 N fr co th le lo da si tx rr n (x4 + (1 : Int32)) ((f_MO_add (rr ((fr + x4)).toNatClampNeg) th le lo da y0_11 y1).1) ((f_MO_add (rr ((fr + x4)).toNatClampNeg) th le lo da y0_11 y1).2) := by rw [f_MO_addFrom_3, if_neg h2]
        rw [e0]
        exact ih (x4 + (1 : Int32)) ((f_MO_add (rr ((fr + x4)).toNatClampNeg) th le lo da y0_11 y1).1) ((f_MO_add (rr ((fr + x4)).toNatClampNeg) th le lo da y0_11 y1).2) _ _ ls (ad_step hI (by assumption)) (lp_ms hI.1 (by assumption) hm) (lv_sub hl [1, 2, 3, 4, 0] rfl) hP hD hS
  have hl := lv_entry ([.ref h, .ref rh, .int fr, .int co]) (n := 5) (Nat.le_of_ble_eq_true rfl)
  rw [lg_entry_eq]
  generalize (lg_sl ([.ref h, .ref rh, .int fr, .int co]) ++ List.replicate (5 - (lg_sl ([.ref h, .ref rh, .int fr, .int co])).length) Slot.unset).toArray = ls at hl ⊢
  have hl : lv_has ls 5 [(0, .ref h), (1, .ref rh), (2, .int fr), (3, .int co)] := hl
  refine lv_iconst (v := 0) hx hb d_MO_addFrom_0 (by decide) ?_
  refine lv_istore (lv' := [(4, .int (0 : Int32)), (0, .ref h), (1, .ref rh), (2, .int fr), (3, .int co)]) hx hb d_MO_addFrom_1 hl (by decide) rfl (fun ls hl => ?_)
  have e0 : (f_MO_addFrom N fr co th le lo da si tx rr) = f_MO_addFrom_3 N fr co th le lo da si tx rr (co.toInt.toNat + 1) (0 : Int32) si tx := by rw [f_MO_addFrom]
  rw [e0]
  exact lp_3 (co.toInt.toNat + 1) (0 : Int32) si tx _ _ ls (ad_start hco) (ms_co co) (lv_sub hl [1, 2, 3, 4, 0] rfl) hP hD hS
-- MO_addCount
theorem d_MO_addCount_0 : decode prog_8_method_7_code 0 = .ok (.iconst 0, 1) := by decide +kernel
theorem d_MO_addCount_1 : decode prog_8_method_7_code 1 = .ok (.istore_n 3, 1) := by decide +kernel
theorem d_MO_addCount_2 : decode prog_8_method_7_code 2 = .ok (.iload_n 3, 1) := by decide +kernel
theorem d_MO_addCount_3 : decode prog_8_method_7_code 3 = .ok (.iload_n 2, 1) := by decide +kernel
theorem d_MO_addCount_4 : decode prog_8_method_7_code 4 = .ok (.if_icmp .ge 16, 3) := by decide +kernel
theorem d_MO_addCount_7 : decode prog_8_method_7_code 7 = .ok (.aload_n 0, 1) := by decide +kernel
theorem d_MO_addCount_8 : decode prog_8_method_7_code 8 = .ok (.iload_n 1, 1) := by decide +kernel
theorem d_MO_addCount_9 : decode prog_8_method_7_code 9 = .ok (.iload_n 3, 1) := by decide +kernel
theorem d_MO_addCount_10 : decode prog_8_method_7_code 10 = .ok (.iadd, 1) := by decide +kernel
theorem d_MO_addCount_11 : decode prog_8_method_7_code 11 = .ok (.invokevirtual 203, 3) := by decide +kernel
theorem d_MO_addCount_14 : decode prog_8_method_7_code 14 = .ok (.iinc 3 1, 3) := by decide +kernel
theorem d_MO_addCount_17 : decode prog_8_method_7_code 17 = .ok (.goto (-15), 3) := by decide +kernel
theorem d_MO_addCount_20 : decode prog_8_method_7_code 20 = .ok (.return_, 1) := by decide +kernel
def y_MO_addCount : MethodName := ⟨"BootChainModel", "addCount", "(II)V"⟩
def ws_MO_addCount : List Cond := .code y_MO_addCount prog_8_method_7_code 4 none :: bc_G
def f_MO_addCount_2 (fi : Int32) (co : Int32) (th : Int32) (le : Int32) (lo : Int32) (da : Int32) (si : Int32) (tx : Nat → Int64) : Nat → Int32 → Int32 → (Nat → Int64) → Int32 × (Nat → Int64)
  | 0, x3, y0_11, y1 => (y0_11, y1)
  | n + 1, x3, y0_11, y1 => if co ≤ x3 then (y0_11, y1) else f_MO_addCount_2 fi co th le lo da si tx n (x3 + (1 : Int32)) ((f_MO_add (fi + x3) th le lo da y0_11 y1).1) ((f_MO_add (fi + x3) th le lo da y0_11 y1).2)
def f_MO_addCount (fi : Int32) (co : Int32) (th : Int32) (le : Int32) (lo : Int32) (da : Int32) (si : Int32) (tx : Nat → Int64) : Int32 × (Nat → Int64) := f_MO_addCount_2 fi co th le lo da si tx (co.toInt.toNat + 1) (0 : Int32) si tx
set_option maxHeartbeats 4000000 in
set_option maxRecDepth 100000 in
theorem c_MO_addCount (l : Launch) (dC : Nat → ClassId) (dI : Nat → Nat → Nat) (cI cJ : ClassId) (h af ak ar ag ad ac ab ax aw an av aa : Nat) (sz : Nat) (fi : Int32) (co : Int32) (th : Int32) (le : Int32) (lo : Int32) (da : Int32) (si : Int32) (tx : Nat → Int64) (hco : ad_ok si co) : Met l y_MO_addCount ws_MO_addCount ({ frames := 1, cells := 0, slots := 0, locals := 21 } : Room) (va_Pc [.ref h, .int fi, .int co] (bc_pre (dC, dI) cI cJ [(h, .inr (5, [.int th, .ref af, .ref ak, .ref ar, .ref ag, .int le, .int lo, .int da, .ref ad, .ref ac, .ref ab, .int si, .ref ax, .ref aw, .ref an, .ref av, .ref aa])), (ax, .inl (cJ, 48, .inr (.inl tx)))] sz)) (va_Qv (fun (_ : Unit) => True) (fun _ => bc_post (dC, dI) cI cJ (va_A [(h, .inr (5, [.int th, .ref af, .ref ak, .ref ar, .ref ag, .int le, .int lo, .int da, .ref ad, .ref ac, .ref ab, .int si, .ref ax, .ref aw, .ref an, .ref av, .ref aa])), (ax, .inl (cJ, 48, .inr (.inl tx)))] sz) [(h, .inr (5, [.int th, .ref af, .ref ak, .ref ar, .ref ag, .int le, .int lo, .int da, .ref ad, .ref ac, .ref ab, .int (f_MO_addCount fi co th le lo da si tx).1, .ref ax, .ref aw, .ref an, .ref av, .ref aa])), (ax, .inl (cJ, 48, .inr (.inl (f_MO_addCount fi co th le lo da si tx).2)))]) (va_A [(h, .inr (5, [.int th, .ref af, .ref ak, .ref ar, .ref ag, .int le, .int lo, .int da, .ref ad, .ref ac, .ref ab, .int si, .ref ax, .ref aw, .ref an, .ref av, .ref aa])), (ax, .inl (cJ, 48, .inr (.inl tx)))] sz)) 0 0 (va_A [(h, .inr (5, [.int th, .ref af, .ref ak, .ref ar, .ref ag, .int le, .int lo, .int da, .ref ad, .ref ac, .ref ab, .int si, .ref ax, .ref aw, .ref an, .ref av, .ref aa])), (ax, .inl (cJ, 48, .inr (.inl tx)))] sz) := by
  refine Met.ofW (cc := prog_8_method_7_code) (maxL := 4) (ret := none) (by decide) rfl ?_
  intro p e s m args below meth c s₁ B hml hv
  obtain ⟨rfl, hsz, hP, hK, hD0, hE⟩ := hv
  have hx := B.exec
  have hb := B.bytes
  have hr := B.returns
  have hts : ∀ w ∈ bc_G, w.before ([.ref h, .int fi, .int co] : List Value).toArray s = true := fun w h => atoms_spec (ws := ws_MO_addCount) B.pre w (List.mem_cons_of_mem _ h)
  have hown : s.vm.findClass "BootChainModel" = some m.cls := findClass_of_methodNamed B.named
  have hlocks := B.notSynchronized
  subst hsz
  have hD := hD0.self (sz := s.heap.size)
  generalize hAe : va_A [(h, .inr (5, [.int th, .ref af, .ref ak, .ref ar, .ref ag, .int le, .int lo, .int da, .ref ad, .ref ac, .ref ab, .int si, .ref ax, .ref aw, .ref an, .ref av, .ref aa])), (ax, .inl (cJ, 48, .inr (.inl tx)))] s.heap.size = A at hD hE ⊢
  have hA : ∀ q : Nat, s.heap.size ≤ q → A q := fun q h => by rw [← hAe]; exact Or.inr h
  have hS : va_S A s.heap s.heap [] := va_S.rf
  have lp_2 : ∀ (n : Nat) (x3 : Int32) (y0_11 : Int32) (y1 : Nat → Int64) (H : Heap) (locs : List Loc) (ls : Array Slot), ad_inv co x3 y0_11 → (co.toInt - x3.toInt).toNat < n → lv_has ls 4 [(0, .ref h), (1, .int fi), (2, .int co), (3, .int x3)] → va_P (dC, dI) classes [(h, .inr (5, [.int th, .ref af, .ref ak, .ref ar, .ref ag, .int le, .int lo, .int da, .ref ad, .ref ac, .ref ab, .int y0_11, .ref ax, .ref aw, .ref an, .ref av, .ref aa])), (ax, .inl (cJ, 48, .inr (.inl y1)))] H → va_D A [(h, .inr (5, [.int th, .ref af, .ref ak, .ref ar, .ref ag, .int le, .int lo, .int da, .ref ad, .ref ac, .ref ab, .int y0_11, .ref ax, .ref aw, .ref an, .ref av, .ref aa])), (ax, .inl (cJ, 48, .inr (.inl y1)))] → va_S A s.heap H locs → W p l e (headSpec ws_MO_addCount ({ frames := 1, cells := 0, slots := 0, locals := 21 } : Room)).room s m ([.ref h, .int fi, .int co] : List Value).toArray below meth c H locs 0 0 (MQ below (va_Qv (fun (_ : Unit) => True) (fun _ => bc_post (dC, dI) cI cJ A [(h, .inr (5, [.int th, .ref af, .ref ak, .ref ar, .ref ag, .int le, .int lo, .int da, .ref ad, .ref ac, .ref ab, .int (f_MO_addCount_2 fi co th le lo da si tx n x3 y0_11 y1).1, .ref ax, .ref aw, .ref an, .ref av, .ref aa])), (ax, .inl (cJ, 48, .inr (.inl (f_MO_addCount_2 fi co th le lo da si tx n x3 y0_11 y1).2)))]) A) ([.ref h, .int fi, .int co] : List Value).toArray s 0 0 A) (F0 m 2 ls []) := by
    intro n
    induction n with
    | zero => intro x3 y0_11 y1 H locs ls hI hm; exact absurd hm (Nat.not_lt_zero _)
    | succ n ih =>
      intro x3 y0_11 y1 H locs ls hI hm hl hP hD hS
      refine lv_iload_n hx hb d_MO_addCount_2 rfl (lv_at hl 3 rfl) ?_
      refine lv_iload_n hx hb d_MO_addCount_3 rfl (lv_at hl 2 rfl) ?_
      refine lv_icmp_ge (tgt := 20) hx hb d_MO_addCount_4 (by decide) (fun h2 => ?_) (fun h2 => ?_)
      · have e0 : (f_MO_addCount_2 fi co th le lo da si tx (n + 1) x3 y0_11 y1) = (y0_11, y1) := by rw [f_MO_addCount_2, if_pos h2]
        rw [e0]
        exact W.vret hx hb hr (fun t ht hW => ⟨⟨(), rfl, trivial, by rw [ht]; exact hP, va_K.moved hW.alike hK, hD⟩, hS.F ht⟩) hS.2.2 d_MO_addCount_20
      · refine lv_aload_n hx hb d_MO_addCount_7 rfl (lv_at hl 0 rfl) ?_
        refine lv_iload_n hx hb d_MO_addCount_8 rfl (lv_at hl 1 rfl) ?_
        refine lv_iload_n hx hb d_MO_addCount_9 rfl (lv_at hl 3 rfl) ?_
        refine lv_iadd hx hb d_MO_addCount_10 ?_
        have hPc := hP.sub (ws' := [(h, .inr (5, [.int th, .ref af, .ref ak, .ref ar, .ref ag, .int le, .int lo, .int da, .ref ad, .ref ac, .ref ab, .int y0_11, .ref ax, .ref aw, .ref an, .ref av, .ref aa])), (ax, .inl (cJ, 48, .inr (.inl y1)))]) [0, 1] rfl
        have hDc := hD.sub (ws' := [(h, .inr (5, [.int th, .ref af, .ref ak, .ref ar, .ref ag, .int le, .int lo, .int da, .ref ad, .ref ac, .ref ab, .int y0_11, .ref ax, .ref aw, .ref an, .ref av, .ref aa])), (ax, .inl (cJ, 48, .inr (.inl y1)))]) [0, 1] (by decide) rfl
        have hFc := va_free (wc := [(h, .inr (5, [.int th, .ref af, .ref ak, .ref ar, .ref ag, .int le, .int lo, .int da, .ref ad, .ref ac, .ref ab, .int y0_11, .ref ax, .ref aw, .ref an, .ref av, .ref aa])), (ax, .inl (cJ, 48, .inr (.inl y1)))]) hD hS hA [0, 1] rfl
        refine va_callv (va_runV (As := [.int (fi + x3)]) (rest := []) ⟨hx, hb, hml, hown, hts⟩ (c_MO_add l dC dI cI cJ h af ak ar ag ad ac ab ax aw an av aa _ (fi + x3) th le lo da y0_11 y1 (ad_ix hI (by assumption))) ⟨callB_of 1 hts (bc_good gw_591) rfl rfl rfl (hts _ gw_6) (hts _ gw_589) (by decide +kernel) ⟨Nat.le_of_ble_eq_true rfl, Nat.le_of_ble_eq_true rfl⟩, (hts _ gw_590), (hts _ gw_711)⟩ ⟨bc_blind, va_recv (q0 := 0) hK hP (q := (R_MO, F_MO, 17)) rfl rfl, fun U hU hW => ⟨rfl, bc_give hPc hDc hK hE hS hFc U hU hW⟩⟩ rfl rfl hl.1 rfl (lv_room (Nat.le_of_ble_eq_true rfl)) d_MO_addCount_11 ⟨Nat.le_of_ble_eq_true rfl, Nat.le_of_ble_eq_true rfl⟩) hS (fun q _ h => hFc q h) hFc (fun u t H9 locs ht hvm hp hB hz1 hk1 hS => ?_)
        obtain ⟨hP, hD⟩ := va_join (wr := []) (w1 := [(h, .inr (5, [.int th, .ref af, .ref ak, .ref ar, .ref ag, .int le, .int lo, .int da, .ref ad, .ref ac, .ref ab, .int ((f_MO_add (fi + x3) th le lo da y0_11 y1).1), .ref ax, .ref aw, .ref an, .ref av, .ref aa])), (ax, .inl (cJ, 48, .inr (.inl ((f_MO_add (fi + x3) th le lo da y0_11 y1).2))))]) hP hD [0, 1] [] rfl rfl (by decide) (by decide) hk1 hFc (ht ▸ hB.1) hB.2.2
        have hP := hP.sub (ws' := [(h, .inr (5, [.int th, .ref af, .ref ak, .ref ar, .ref ag, .int le, .int lo, .int da, .ref ad, .ref ac, .ref ab, .int ((f_MO_add (fi + x3) th le lo da y0_11 y1).1), .ref ax, .ref aw, .ref an, .ref av, .ref aa])), (ax, .inl (cJ, 48, .inr (.inl ((f_MO_add (fi + x3) th le lo da y0_11 y1).2))))]) [0, 1] rfl
        have hD := hD.sub (ws' := [(h, .inr (5, [.int th, .ref af, .ref ak, .ref ar, .ref ag, .int le, .int lo, .int da, .ref ad, .ref ac, .ref ab, .int ((f_MO_add (fi + x3) th le lo da y0_11 y1).1), .ref ax, .ref aw, .ref an, .ref av, .ref aa])), (ax, .inl (cJ, 48, .inr (.inl ((f_MO_add (fi + x3) th le lo da y0_11 y1).2))))]) [0, 1] (by decide) rfl
        generalize H9 = H at hP hS ⊢
        refine lv_iinc (k := 3) (v := (x3 + (1 : Int32))) (lv' := [(3, .int (x3 + (1 : Int32))), (0, .ref h), (1, .int fi), (2, .int co)]) hx hb d_MO_addCount_14 hl rfl rfl (by decide) rfl (fun ls hl => ?_)
        refine lv_goto (tgt := 2) hx hb d_MO_addCount_17 (by decide) ?_
        have e0 : (f_MO_addCount_2 fi co th le lo da si tx (n + 1) x3 y0_11 y1) = f_MO_addCount_2 fi co th le lo da si tx n (x3 + (1 : Int32)) ((f_MO_add (fi + x3) th le lo da y0_11 y1).1) ((f_MO_add (fi + x3) th le lo da y0_11 y1).2) := by rw [f_MO_addCount_2, if_neg h2]
        rw [e0]
        exact ih (x3 + (1 : Int32)) ((f_MO_add (fi + x3) th le lo da y0_11 y1).1) ((f_MO_add (fi + x3) th le lo da y0_11 y1).2) _ _ ls (ad_step hI (by assumption)) (lp_ms hI.1 (by assumption) hm) (lv_sub hl [1, 2, 3, 0] rfl) hP hD hS
  have hl := lv_entry ([.ref h, .int fi, .int co]) (n := 4) (Nat.le_of_ble_eq_true rfl)
  rw [lg_entry_eq]
  generalize (lg_sl ([.ref h, .int fi, .int co]) ++ List.replicate (4 - (lg_sl ([.ref h, .int fi, .int co])).length) Slot.unset).toArray = ls at hl ⊢
  have hl : lv_has ls 4 [(0, .ref h), (1, .int fi), (2, .int co)] := hl
  refine lv_iconst (v := 0) hx hb d_MO_addCount_0 (by decide) ?_
  refine lv_istore_n (lv' := [(3, .int (0 : Int32)), (0, .ref h), (1, .int fi), (2, .int co)]) hx hb d_MO_addCount_1 rfl hl (by decide) rfl (fun ls hl => ?_)
  have e0 : (f_MO_addCount fi co th le lo da si tx) = f_MO_addCount_2 fi co th le lo da si tx (co.toInt.toNat + 1) (0 : Int32) si tx := by rw [f_MO_addCount]
  rw [e0]
  exact lp_2 (co.toInt.toNat + 1) (0 : Int32) si tx _ _ ls (ad_start hco) (ms_co co) (lv_sub hl [1, 2, 3, 0] rfl) hP hD hS
-- MO_mix
theorem d_MO_mix_0 : decode prog_8_method_10_code 0 = .ok (.iconst 0, 1) := by decide +kernel
theorem d_MO_mix_1 : decode prog_8_method_10_code 1 = .ok (.istore_n 2, 1) := by decide +kernel
theorem d_MO_mix_2 : decode prog_8_method_10_code 2 = .ok (.iload_n 2, 1) := by decide +kernel
theorem d_MO_mix_3 : decode prog_8_method_10_code 3 = .ok (.bipush 64, 2) := by decide +kernel
theorem d_MO_mix_5 : decode prog_8_method_10_code 5 = .ok (.if_icmp .ge 129, 3) := by decide +kernel
theorem d_MO_mix_8 : decode prog_8_method_10_code 8 = .ok (.iload_n 2, 1) := by decide +kernel
theorem d_MO_mix_9 : decode prog_8_method_10_code 9 = .ok (.bipush 16, 2) := by decide +kernel
theorem d_MO_mix_11 : decode prog_8_method_10_code 11 = .ok (.if_icmp .ge 20, 3) := by decide +kernel
theorem d_MO_mix_14 : decode prog_8_method_10_code 14 = .ok (.aload_n 0, 1) := by decide +kernel
theorem d_MO_mix_15 : decode prog_8_method_10_code 15 = .ok (.getfield 39, 3) := by decide +kernel
theorem d_MO_mix_18 : decode prog_8_method_10_code 18 = .ok (.iload_n 2, 1) := by decide +kernel
theorem d_MO_mix_19 : decode prog_8_method_10_code 19 = .ok (.aload_n 0, 1) := by decide +kernel
theorem d_MO_mix_20 : decode prog_8_method_10_code 20 = .ok (.getfield 36, 3) := by decide +kernel
theorem d_MO_mix_23 : decode prog_8_method_10_code 23 = .ok (.iload_n 1, 1) := by decide +kernel
theorem d_MO_mix_24 : decode prog_8_method_10_code 24 = .ok (.iload_n 2, 1) := by decide +kernel
theorem d_MO_mix_25 : decode prog_8_method_10_code 25 = .ok (.iadd, 1) := by decide +kernel
theorem d_MO_mix_26 : decode prog_8_method_10_code 26 = .ok (.laload, 1) := by decide +kernel
theorem d_MO_mix_27 : decode prog_8_method_10_code 27 = .ok (.lastore, 1) := by decide +kernel
theorem d_MO_mix_28 : decode prog_8_method_10_code 28 = .ok (.goto 100, 3) := by decide +kernel
theorem d_MO_mix_31 : decode prog_8_method_10_code 31 = .ok (.aload_n 0, 1) := by decide +kernel
theorem d_MO_mix_32 : decode prog_8_method_10_code 32 = .ok (.getfield 39, 3) := by decide +kernel
theorem d_MO_mix_35 : decode prog_8_method_10_code 35 = .ok (.iload_n 2, 1) := by decide +kernel
theorem d_MO_mix_36 : decode prog_8_method_10_code 36 = .ok (.bipush 15, 2) := by decide +kernel
theorem d_MO_mix_38 : decode prog_8_method_10_code 38 = .ok (.isub, 1) := by decide +kernel
theorem d_MO_mix_39 : decode prog_8_method_10_code 39 = .ok (.laload, 1) := by decide +kernel
theorem d_MO_mix_40 : decode prog_8_method_10_code 40 = .ok (.lstore_n 3, 1) := by decide +kernel
theorem d_MO_mix_41 : decode prog_8_method_10_code 41 = .ok (.aload_n 0, 1) := by decide +kernel
theorem d_MO_mix_42 : decode prog_8_method_10_code 42 = .ok (.getfield 39, 3) := by decide +kernel
theorem d_MO_mix_45 : decode prog_8_method_10_code 45 = .ok (.iload_n 2, 1) := by decide +kernel
theorem d_MO_mix_46 : decode prog_8_method_10_code 46 = .ok (.iconst 2, 1) := by decide +kernel
theorem d_MO_mix_47 : decode prog_8_method_10_code 47 = .ok (.isub, 1) := by decide +kernel
theorem d_MO_mix_48 : decode prog_8_method_10_code 48 = .ok (.laload, 1) := by decide +kernel
theorem d_MO_mix_49 : decode prog_8_method_10_code 49 = .ok (.lstore 5, 2) := by decide +kernel
theorem d_MO_mix_51 : decode prog_8_method_10_code 51 = .ok (.lload_n 3, 1) := by decide +kernel
theorem d_MO_mix_52 : decode prog_8_method_10_code 52 = .ok (.bipush 7, 2) := by decide +kernel
theorem d_MO_mix_54 : decode prog_8_method_10_code 54 = .ok (.invokestatic 213, 3) := by decide +kernel
theorem d_MO_mix_57 : decode prog_8_method_10_code 57 = .ok (.lload_n 3, 1) := by decide +kernel
theorem d_MO_mix_58 : decode prog_8_method_10_code 58 = .ok (.bipush 18, 2) := by decide +kernel
theorem d_MO_mix_60 : decode prog_8_method_10_code 60 = .ok (.invokestatic 213, 3) := by decide +kernel
theorem d_MO_mix_63 : decode prog_8_method_10_code 63 = .ok (.lxor, 1) := by decide +kernel
theorem d_MO_mix_64 : decode prog_8_method_10_code 64 = .ok (.lload_n 3, 1) := by decide +kernel
theorem d_MO_mix_65 : decode prog_8_method_10_code 65 = .ok (.iconst 3, 1) := by decide +kernel
theorem d_MO_mix_66 : decode prog_8_method_10_code 66 = .ok (.lshr, 1) := by decide +kernel
theorem d_MO_mix_67 : decode prog_8_method_10_code 67 = .ok (.lxor, 1) := by decide +kernel
theorem d_MO_mix_68 : decode prog_8_method_10_code 68 = .ok (.lstore 7, 2) := by decide +kernel
theorem d_MO_mix_70 : decode prog_8_method_10_code 70 = .ok (.lload 5, 2) := by decide +kernel
theorem d_MO_mix_72 : decode prog_8_method_10_code 72 = .ok (.bipush 17, 2) := by decide +kernel
theorem d_MO_mix_74 : decode prog_8_method_10_code 74 = .ok (.invokestatic 213, 3) := by decide +kernel
theorem d_MO_mix_77 : decode prog_8_method_10_code 77 = .ok (.lload 5, 2) := by decide +kernel
theorem d_MO_mix_79 : decode prog_8_method_10_code 79 = .ok (.bipush 19, 2) := by decide +kernel
theorem d_MO_mix_81 : decode prog_8_method_10_code 81 = .ok (.invokestatic 213, 3) := by decide +kernel
theorem d_MO_mix_84 : decode prog_8_method_10_code 84 = .ok (.lxor, 1) := by decide +kernel
theorem d_MO_mix_85 : decode prog_8_method_10_code 85 = .ok (.lload 5, 2) := by decide +kernel
theorem d_MO_mix_87 : decode prog_8_method_10_code 87 = .ok (.bipush 10, 2) := by decide +kernel
theorem d_MO_mix_89 : decode prog_8_method_10_code 89 = .ok (.lshr, 1) := by decide +kernel
theorem d_MO_mix_90 : decode prog_8_method_10_code 90 = .ok (.lxor, 1) := by decide +kernel
theorem d_MO_mix_91 : decode prog_8_method_10_code 91 = .ok (.lstore 9, 2) := by decide +kernel
theorem d_MO_mix_93 : decode prog_8_method_10_code 93 = .ok (.aload_n 0, 1) := by decide +kernel
theorem d_MO_mix_94 : decode prog_8_method_10_code 94 = .ok (.getfield 39, 3) := by decide +kernel
theorem d_MO_mix_97 : decode prog_8_method_10_code 97 = .ok (.iload_n 2, 1) := by decide +kernel
theorem d_MO_mix_98 : decode prog_8_method_10_code 98 = .ok (.aload_n 0, 1) := by decide +kernel
theorem d_MO_mix_99 : decode prog_8_method_10_code 99 = .ok (.getfield 39, 3) := by decide +kernel
theorem d_MO_mix_102 : decode prog_8_method_10_code 102 = .ok (.iload_n 2, 1) := by decide +kernel
theorem d_MO_mix_103 : decode prog_8_method_10_code 103 = .ok (.bipush 16, 2) := by decide +kernel
theorem d_MO_mix_105 : decode prog_8_method_10_code 105 = .ok (.isub, 1) := by decide +kernel
theorem d_MO_mix_106 : decode prog_8_method_10_code 106 = .ok (.laload, 1) := by decide +kernel
theorem d_MO_mix_107 : decode prog_8_method_10_code 107 = .ok (.lload 7, 2) := by decide +kernel
theorem d_MO_mix_109 : decode prog_8_method_10_code 109 = .ok (.ladd, 1) := by decide +kernel
theorem d_MO_mix_110 : decode prog_8_method_10_code 110 = .ok (.aload_n 0, 1) := by decide +kernel
theorem d_MO_mix_111 : decode prog_8_method_10_code 111 = .ok (.getfield 39, 3) := by decide +kernel
theorem d_MO_mix_114 : decode prog_8_method_10_code 114 = .ok (.iload_n 2, 1) := by decide +kernel
theorem d_MO_mix_115 : decode prog_8_method_10_code 115 = .ok (.bipush 7, 2) := by decide +kernel
theorem d_MO_mix_117 : decode prog_8_method_10_code 117 = .ok (.isub, 1) := by decide +kernel
theorem d_MO_mix_118 : decode prog_8_method_10_code 118 = .ok (.laload, 1) := by decide +kernel
theorem d_MO_mix_119 : decode prog_8_method_10_code 119 = .ok (.ladd, 1) := by decide +kernel
theorem d_MO_mix_120 : decode prog_8_method_10_code 120 = .ok (.lload 9, 2) := by decide +kernel
theorem d_MO_mix_122 : decode prog_8_method_10_code 122 = .ok (.ladd, 1) := by decide +kernel
theorem d_MO_mix_123 : decode prog_8_method_10_code 123 = .ok (.ldc2_w 201, 3) := by decide +kernel
theorem d_MO_mix_126 : decode prog_8_method_10_code 126 = .ok (.land, 1) := by decide +kernel
theorem d_MO_mix_127 : decode prog_8_method_10_code 127 = .ok (.lastore, 1) := by decide +kernel
theorem d_MO_mix_128 : decode prog_8_method_10_code 128 = .ok (.iinc 2 1, 3) := by decide +kernel
theorem d_MO_mix_131 : decode prog_8_method_10_code 131 = .ok (.goto (-129), 3) := by decide +kernel
theorem d_MO_mix_134 : decode prog_8_method_10_code 134 = .ok (.iconst 0, 1) := by decide +kernel
theorem d_MO_mix_135 : decode prog_8_method_10_code 135 = .ok (.istore_n 2, 1) := by decide +kernel
theorem d_MO_mix_136 : decode prog_8_method_10_code 136 = .ok (.iload_n 2, 1) := by decide +kernel
theorem d_MO_mix_137 : decode prog_8_method_10_code 137 = .ok (.bipush 8, 2) := by decide +kernel
theorem d_MO_mix_139 : decode prog_8_method_10_code 139 = .ok (.if_icmp .ge 21, 3) := by decide +kernel
theorem d_MO_mix_142 : decode prog_8_method_10_code 142 = .ok (.aload_n 0, 1) := by decide +kernel
theorem d_MO_mix_143 : decode prog_8_method_10_code 143 = .ok (.getfield 45, 3) := by decide +kernel
theorem d_MO_mix_146 : decode prog_8_method_10_code 146 = .ok (.iload_n 2, 1) := by decide +kernel
theorem d_MO_mix_147 : decode prog_8_method_10_code 147 = .ok (.aload_n 0, 1) := by decide +kernel
theorem d_MO_mix_148 : decode prog_8_method_10_code 148 = .ok (.getfield 42, 3) := by decide +kernel
theorem d_MO_mix_151 : decode prog_8_method_10_code 151 = .ok (.iload_n 2, 1) := by decide +kernel
theorem d_MO_mix_152 : decode prog_8_method_10_code 152 = .ok (.laload, 1) := by decide +kernel
theorem d_MO_mix_153 : decode prog_8_method_10_code 153 = .ok (.lastore, 1) := by decide +kernel
theorem d_MO_mix_154 : decode prog_8_method_10_code 154 = .ok (.iinc 2 1, 3) := by decide +kernel
theorem d_MO_mix_157 : decode prog_8_method_10_code 157 = .ok (.goto (-21), 3) := by decide +kernel
theorem d_MO_mix_160 : decode prog_8_method_10_code 160 = .ok (.iconst 0, 1) := by decide +kernel
theorem d_MO_mix_161 : decode prog_8_method_10_code 161 = .ok (.istore_n 2, 1) := by decide +kernel
theorem d_MO_mix_162 : decode prog_8_method_10_code 162 = .ok (.iload_n 2, 1) := by decide +kernel
theorem d_MO_mix_163 : decode prog_8_method_10_code 163 = .ok (.bipush 64, 2) := by decide +kernel
theorem d_MO_mix_165 : decode prog_8_method_10_code 165 = .ok (.if_icmp .ge 244, 3) := by decide +kernel
theorem d_MO_mix_168 : decode prog_8_method_10_code 168 = .ok (.bipush 64, 2) := by decide +kernel
theorem d_MO_mix_170 : decode prog_8_method_10_code 170 = .ok (.iload_n 2, 1) := by decide +kernel
theorem d_MO_mix_171 : decode prog_8_method_10_code 171 = .ok (.isub, 1) := by decide +kernel
theorem d_MO_mix_172 : decode prog_8_method_10_code 172 = .ok (.istore_n 3, 1) := by decide +kernel
theorem d_MO_mix_173 : decode prog_8_method_10_code 173 = .ok (.aload_n 0, 1) := by decide +kernel
theorem d_MO_mix_174 : decode prog_8_method_10_code 174 = .ok (.getfield 45, 3) := by decide +kernel
theorem d_MO_mix_177 : decode prog_8_method_10_code 177 = .ok (.iload_n 3, 1) := by decide +kernel
theorem d_MO_mix_178 : decode prog_8_method_10_code 178 = .ok (.iconst 4, 1) := by decide +kernel
theorem d_MO_mix_179 : decode prog_8_method_10_code 179 = .ok (.iadd, 1) := by decide +kernel
theorem d_MO_mix_180 : decode prog_8_method_10_code 180 = .ok (.bipush 8, 2) := by decide +kernel
theorem d_MO_mix_182 : decode prog_8_method_10_code 182 = .ok (.irem, 1) := by decide +kernel
theorem d_MO_mix_183 : decode prog_8_method_10_code 183 = .ok (.laload, 1) := by decide +kernel
theorem d_MO_mix_184 : decode prog_8_method_10_code 184 = .ok (.lstore 4, 2) := by decide +kernel
theorem d_MO_mix_186 : decode prog_8_method_10_code 186 = .ok (.aload_n 0, 1) := by decide +kernel
theorem d_MO_mix_187 : decode prog_8_method_10_code 187 = .ok (.getfield 45, 3) := by decide +kernel
theorem d_MO_mix_190 : decode prog_8_method_10_code 190 = .ok (.iload_n 3, 1) := by decide +kernel
theorem d_MO_mix_191 : decode prog_8_method_10_code 191 = .ok (.bipush 8, 2) := by decide +kernel
theorem d_MO_mix_193 : decode prog_8_method_10_code 193 = .ok (.irem, 1) := by decide +kernel
theorem d_MO_mix_194 : decode prog_8_method_10_code 194 = .ok (.laload, 1) := by decide +kernel
theorem d_MO_mix_195 : decode prog_8_method_10_code 195 = .ok (.lstore 6, 2) := by decide +kernel
theorem d_MO_mix_197 : decode prog_8_method_10_code 197 = .ok (.aload_n 0, 1) := by decide +kernel
theorem d_MO_mix_198 : decode prog_8_method_10_code 198 = .ok (.getfield 45, 3) := by decide +kernel
theorem d_MO_mix_201 : decode prog_8_method_10_code 201 = .ok (.iload_n 3, 1) := by decide +kernel
theorem d_MO_mix_202 : decode prog_8_method_10_code 202 = .ok (.iconst 5, 1) := by decide +kernel
theorem d_MO_mix_203 : decode prog_8_method_10_code 203 = .ok (.iadd, 1) := by decide +kernel
theorem d_MO_mix_204 : decode prog_8_method_10_code 204 = .ok (.bipush 8, 2) := by decide +kernel
theorem d_MO_mix_206 : decode prog_8_method_10_code 206 = .ok (.irem, 1) := by decide +kernel
theorem d_MO_mix_207 : decode prog_8_method_10_code 207 = .ok (.laload, 1) := by decide +kernel
theorem d_MO_mix_208 : decode prog_8_method_10_code 208 = .ok (.lstore 8, 2) := by decide +kernel
theorem d_MO_mix_210 : decode prog_8_method_10_code 210 = .ok (.aload_n 0, 1) := by decide +kernel
theorem d_MO_mix_211 : decode prog_8_method_10_code 211 = .ok (.getfield 45, 3) := by decide +kernel
theorem d_MO_mix_214 : decode prog_8_method_10_code 214 = .ok (.iload_n 3, 1) := by decide +kernel
theorem d_MO_mix_215 : decode prog_8_method_10_code 215 = .ok (.bipush 6, 2) := by decide +kernel
theorem d_MO_mix_217 : decode prog_8_method_10_code 217 = .ok (.iadd, 1) := by decide +kernel
theorem d_MO_mix_218 : decode prog_8_method_10_code 218 = .ok (.bipush 8, 2) := by decide +kernel
theorem d_MO_mix_220 : decode prog_8_method_10_code 220 = .ok (.irem, 1) := by decide +kernel
theorem d_MO_mix_221 : decode prog_8_method_10_code 221 = .ok (.laload, 1) := by decide +kernel
theorem d_MO_mix_222 : decode prog_8_method_10_code 222 = .ok (.lstore 10, 2) := by decide +kernel
theorem d_MO_mix_224 : decode prog_8_method_10_code 224 = .ok (.aload_n 0, 1) := by decide +kernel
theorem d_MO_mix_225 : decode prog_8_method_10_code 225 = .ok (.getfield 45, 3) := by decide +kernel
theorem d_MO_mix_228 : decode prog_8_method_10_code 228 = .ok (.iload_n 3, 1) := by decide +kernel
theorem d_MO_mix_229 : decode prog_8_method_10_code 229 = .ok (.iconst 1, 1) := by decide +kernel
theorem d_MO_mix_230 : decode prog_8_method_10_code 230 = .ok (.iadd, 1) := by decide +kernel
theorem d_MO_mix_231 : decode prog_8_method_10_code 231 = .ok (.bipush 8, 2) := by decide +kernel
theorem d_MO_mix_233 : decode prog_8_method_10_code 233 = .ok (.irem, 1) := by decide +kernel
theorem d_MO_mix_234 : decode prog_8_method_10_code 234 = .ok (.laload, 1) := by decide +kernel
theorem d_MO_mix_235 : decode prog_8_method_10_code 235 = .ok (.lstore 12, 2) := by decide +kernel
theorem d_MO_mix_237 : decode prog_8_method_10_code 237 = .ok (.aload_n 0, 1) := by decide +kernel
theorem d_MO_mix_238 : decode prog_8_method_10_code 238 = .ok (.getfield 45, 3) := by decide +kernel
theorem d_MO_mix_241 : decode prog_8_method_10_code 241 = .ok (.iload_n 3, 1) := by decide +kernel
theorem d_MO_mix_242 : decode prog_8_method_10_code 242 = .ok (.iconst 2, 1) := by decide +kernel
theorem d_MO_mix_243 : decode prog_8_method_10_code 243 = .ok (.iadd, 1) := by decide +kernel
theorem d_MO_mix_244 : decode prog_8_method_10_code 244 = .ok (.bipush 8, 2) := by decide +kernel
theorem d_MO_mix_246 : decode prog_8_method_10_code 246 = .ok (.irem, 1) := by decide +kernel
theorem d_MO_mix_247 : decode prog_8_method_10_code 247 = .ok (.laload, 1) := by decide +kernel
theorem d_MO_mix_248 : decode prog_8_method_10_code 248 = .ok (.lstore 14, 2) := by decide +kernel
theorem d_MO_mix_250 : decode prog_8_method_10_code 250 = .ok (.aload_n 0, 1) := by decide +kernel
theorem d_MO_mix_251 : decode prog_8_method_10_code 251 = .ok (.getfield 45, 3) := by decide +kernel
theorem d_MO_mix_254 : decode prog_8_method_10_code 254 = .ok (.iload_n 3, 1) := by decide +kernel
theorem d_MO_mix_255 : decode prog_8_method_10_code 255 = .ok (.bipush 7, 2) := by decide +kernel
theorem d_MO_mix_257 : decode prog_8_method_10_code 257 = .ok (.iadd, 1) := by decide +kernel
theorem d_MO_mix_258 : decode prog_8_method_10_code 258 = .ok (.bipush 8, 2) := by decide +kernel
theorem d_MO_mix_260 : decode prog_8_method_10_code 260 = .ok (.irem, 1) := by decide +kernel
theorem d_MO_mix_261 : decode prog_8_method_10_code 261 = .ok (.laload, 1) := by decide +kernel
theorem d_MO_mix_262 : decode prog_8_method_10_code 262 = .ok (.lload 4, 2) := by decide +kernel
theorem d_MO_mix_264 : decode prog_8_method_10_code 264 = .ok (.bipush 6, 2) := by decide +kernel
theorem d_MO_mix_266 : decode prog_8_method_10_code 266 = .ok (.invokestatic 213, 3) := by decide +kernel
theorem d_MO_mix_269 : decode prog_8_method_10_code 269 = .ok (.lload 4, 2) := by decide +kernel
theorem d_MO_mix_271 : decode prog_8_method_10_code 271 = .ok (.bipush 11, 2) := by decide +kernel
theorem d_MO_mix_273 : decode prog_8_method_10_code 273 = .ok (.invokestatic 213, 3) := by decide +kernel
theorem d_MO_mix_276 : decode prog_8_method_10_code 276 = .ok (.lxor, 1) := by decide +kernel
theorem d_MO_mix_277 : decode prog_8_method_10_code 277 = .ok (.lload 4, 2) := by decide +kernel
theorem d_MO_mix_279 : decode prog_8_method_10_code 279 = .ok (.bipush 25, 2) := by decide +kernel
theorem d_MO_mix_281 : decode prog_8_method_10_code 281 = .ok (.invokestatic 213, 3) := by decide +kernel
theorem d_MO_mix_284 : decode prog_8_method_10_code 284 = .ok (.lxor, 1) := by decide +kernel
theorem d_MO_mix_285 : decode prog_8_method_10_code 285 = .ok (.ladd, 1) := by decide +kernel
theorem d_MO_mix_286 : decode prog_8_method_10_code 286 = .ok (.lload 10, 2) := by decide +kernel
theorem d_MO_mix_288 : decode prog_8_method_10_code 288 = .ok (.lload 4, 2) := by decide +kernel
theorem d_MO_mix_290 : decode prog_8_method_10_code 290 = .ok (.lload 8, 2) := by decide +kernel
theorem d_MO_mix_292 : decode prog_8_method_10_code 292 = .ok (.lload 10, 2) := by decide +kernel
theorem d_MO_mix_294 : decode prog_8_method_10_code 294 = .ok (.lxor, 1) := by decide +kernel
theorem d_MO_mix_295 : decode prog_8_method_10_code 295 = .ok (.land, 1) := by decide +kernel
theorem d_MO_mix_296 : decode prog_8_method_10_code 296 = .ok (.lxor, 1) := by decide +kernel
theorem d_MO_mix_297 : decode prog_8_method_10_code 297 = .ok (.ladd, 1) := by decide +kernel
theorem d_MO_mix_298 : decode prog_8_method_10_code 298 = .ok (.aload_n 0, 1) := by decide +kernel
theorem d_MO_mix_299 : decode prog_8_method_10_code 299 = .ok (.getfield 29, 3) := by decide +kernel
theorem d_MO_mix_302 : decode prog_8_method_10_code 302 = .ok (.iload_n 2, 1) := by decide +kernel
theorem d_MO_mix_303 : decode prog_8_method_10_code 303 = .ok (.laload, 1) := by decide +kernel
theorem d_MO_mix_304 : decode prog_8_method_10_code 304 = .ok (.ladd, 1) := by decide +kernel
theorem d_MO_mix_305 : decode prog_8_method_10_code 305 = .ok (.aload_n 0, 1) := by decide +kernel
theorem d_MO_mix_306 : decode prog_8_method_10_code 306 = .ok (.getfield 39, 3) := by decide +kernel
theorem d_MO_mix_309 : decode prog_8_method_10_code 309 = .ok (.iload_n 2, 1) := by decide +kernel
theorem d_MO_mix_310 : decode prog_8_method_10_code 310 = .ok (.laload, 1) := by decide +kernel
theorem d_MO_mix_311 : decode prog_8_method_10_code 311 = .ok (.ladd, 1) := by decide +kernel
theorem d_MO_mix_312 : decode prog_8_method_10_code 312 = .ok (.lstore 16, 2) := by decide +kernel
theorem d_MO_mix_314 : decode prog_8_method_10_code 314 = .ok (.lload 6, 2) := by decide +kernel
theorem d_MO_mix_316 : decode prog_8_method_10_code 316 = .ok (.iconst 2, 1) := by decide +kernel
theorem d_MO_mix_317 : decode prog_8_method_10_code 317 = .ok (.invokestatic 213, 3) := by decide +kernel
theorem d_MO_mix_320 : decode prog_8_method_10_code 320 = .ok (.lload 6, 2) := by decide +kernel
theorem d_MO_mix_322 : decode prog_8_method_10_code 322 = .ok (.bipush 13, 2) := by decide +kernel
theorem d_MO_mix_324 : decode prog_8_method_10_code 324 = .ok (.invokestatic 213, 3) := by decide +kernel
theorem d_MO_mix_327 : decode prog_8_method_10_code 327 = .ok (.lxor, 1) := by decide +kernel
theorem d_MO_mix_328 : decode prog_8_method_10_code 328 = .ok (.lload 6, 2) := by decide +kernel
theorem d_MO_mix_330 : decode prog_8_method_10_code 330 = .ok (.bipush 22, 2) := by decide +kernel
theorem d_MO_mix_332 : decode prog_8_method_10_code 332 = .ok (.invokestatic 213, 3) := by decide +kernel
theorem d_MO_mix_335 : decode prog_8_method_10_code 335 = .ok (.lxor, 1) := by decide +kernel
theorem d_MO_mix_336 : decode prog_8_method_10_code 336 = .ok (.lload 6, 2) := by decide +kernel
theorem d_MO_mix_338 : decode prog_8_method_10_code 338 = .ok (.lload 12, 2) := by decide +kernel
theorem d_MO_mix_340 : decode prog_8_method_10_code 340 = .ok (.land, 1) := by decide +kernel
theorem d_MO_mix_341 : decode prog_8_method_10_code 341 = .ok (.lload 14, 2) := by decide +kernel
theorem d_MO_mix_343 : decode prog_8_method_10_code 343 = .ok (.lload 6, 2) := by decide +kernel
theorem d_MO_mix_345 : decode prog_8_method_10_code 345 = .ok (.lload 12, 2) := by decide +kernel
theorem d_MO_mix_347 : decode prog_8_method_10_code 347 = .ok (.lor, 1) := by decide +kernel
theorem d_MO_mix_348 : decode prog_8_method_10_code 348 = .ok (.land, 1) := by decide +kernel
theorem d_MO_mix_349 : decode prog_8_method_10_code 349 = .ok (.lor, 1) := by decide +kernel
theorem d_MO_mix_350 : decode prog_8_method_10_code 350 = .ok (.ladd, 1) := by decide +kernel
theorem d_MO_mix_351 : decode prog_8_method_10_code 351 = .ok (.lstore 18, 2) := by decide +kernel
theorem d_MO_mix_353 : decode prog_8_method_10_code 353 = .ok (.aload_n 0, 1) := by decide +kernel
theorem d_MO_mix_354 : decode prog_8_method_10_code 354 = .ok (.getfield 45, 3) := by decide +kernel
theorem d_MO_mix_357 : decode prog_8_method_10_code 357 = .ok (.iload_n 3, 1) := by decide +kernel
theorem d_MO_mix_358 : decode prog_8_method_10_code 358 = .ok (.iconst 3, 1) := by decide +kernel
theorem d_MO_mix_359 : decode prog_8_method_10_code 359 = .ok (.iadd, 1) := by decide +kernel
theorem d_MO_mix_360 : decode prog_8_method_10_code 360 = .ok (.bipush 8, 2) := by decide +kernel
theorem d_MO_mix_362 : decode prog_8_method_10_code 362 = .ok (.irem, 1) := by decide +kernel
theorem d_MO_mix_363 : decode prog_8_method_10_code 363 = .ok (.aload_n 0, 1) := by decide +kernel
theorem d_MO_mix_364 : decode prog_8_method_10_code 364 = .ok (.getfield 45, 3) := by decide +kernel
theorem d_MO_mix_367 : decode prog_8_method_10_code 367 = .ok (.iload_n 3, 1) := by decide +kernel
theorem d_MO_mix_368 : decode prog_8_method_10_code 368 = .ok (.iconst 3, 1) := by decide +kernel
theorem d_MO_mix_369 : decode prog_8_method_10_code 369 = .ok (.iadd, 1) := by decide +kernel
theorem d_MO_mix_370 : decode prog_8_method_10_code 370 = .ok (.bipush 8, 2) := by decide +kernel
theorem d_MO_mix_372 : decode prog_8_method_10_code 372 = .ok (.irem, 1) := by decide +kernel
theorem d_MO_mix_373 : decode prog_8_method_10_code 373 = .ok (.laload, 1) := by decide +kernel
theorem d_MO_mix_374 : decode prog_8_method_10_code 374 = .ok (.lload 16, 2) := by decide +kernel
theorem d_MO_mix_376 : decode prog_8_method_10_code 376 = .ok (.ladd, 1) := by decide +kernel
theorem d_MO_mix_377 : decode prog_8_method_10_code 377 = .ok (.ldc2_w 201, 3) := by decide +kernel
theorem d_MO_mix_380 : decode prog_8_method_10_code 380 = .ok (.land, 1) := by decide +kernel
theorem d_MO_mix_381 : decode prog_8_method_10_code 381 = .ok (.lastore, 1) := by decide +kernel
theorem d_MO_mix_382 : decode prog_8_method_10_code 382 = .ok (.aload_n 0, 1) := by decide +kernel
theorem d_MO_mix_383 : decode prog_8_method_10_code 383 = .ok (.getfield 45, 3) := by decide +kernel
theorem d_MO_mix_386 : decode prog_8_method_10_code 386 = .ok (.iload_n 3, 1) := by decide +kernel
theorem d_MO_mix_387 : decode prog_8_method_10_code 387 = .ok (.bipush 7, 2) := by decide +kernel
theorem d_MO_mix_389 : decode prog_8_method_10_code 389 = .ok (.iadd, 1) := by decide +kernel
theorem d_MO_mix_390 : decode prog_8_method_10_code 390 = .ok (.bipush 8, 2) := by decide +kernel
theorem d_MO_mix_392 : decode prog_8_method_10_code 392 = .ok (.irem, 1) := by decide +kernel
theorem d_MO_mix_393 : decode prog_8_method_10_code 393 = .ok (.lload 16, 2) := by decide +kernel
theorem d_MO_mix_395 : decode prog_8_method_10_code 395 = .ok (.lload 18, 2) := by decide +kernel
theorem d_MO_mix_397 : decode prog_8_method_10_code 397 = .ok (.ladd, 1) := by decide +kernel
theorem d_MO_mix_398 : decode prog_8_method_10_code 398 = .ok (.ldc2_w 201, 3) := by decide +kernel
theorem d_MO_mix_401 : decode prog_8_method_10_code 401 = .ok (.land, 1) := by decide +kernel
theorem d_MO_mix_402 : decode prog_8_method_10_code 402 = .ok (.lastore, 1) := by decide +kernel
theorem d_MO_mix_403 : decode prog_8_method_10_code 403 = .ok (.iinc 2 1, 3) := by decide +kernel
theorem d_MO_mix_406 : decode prog_8_method_10_code 406 = .ok (.goto (-244), 3) := by decide +kernel
theorem d_MO_mix_409 : decode prog_8_method_10_code 409 = .ok (.iconst 0, 1) := by decide +kernel
theorem d_MO_mix_410 : decode prog_8_method_10_code 410 = .ok (.istore_n 2, 1) := by decide +kernel
theorem d_MO_mix_411 : decode prog_8_method_10_code 411 = .ok (.iload_n 2, 1) := by decide +kernel
theorem d_MO_mix_412 : decode prog_8_method_10_code 412 = .ok (.bipush 8, 2) := by decide +kernel
theorem d_MO_mix_414 : decode prog_8_method_10_code 414 = .ok (.if_icmp .ge 32, 3) := by decide +kernel
theorem d_MO_mix_417 : decode prog_8_method_10_code 417 = .ok (.aload_n 0, 1) := by decide +kernel
theorem d_MO_mix_418 : decode prog_8_method_10_code 418 = .ok (.getfield 42, 3) := by decide +kernel
theorem d_MO_mix_421 : decode prog_8_method_10_code 421 = .ok (.iload_n 2, 1) := by decide +kernel
theorem d_MO_mix_422 : decode prog_8_method_10_code 422 = .ok (.aload_n 0, 1) := by decide +kernel
theorem d_MO_mix_423 : decode prog_8_method_10_code 423 = .ok (.getfield 42, 3) := by decide +kernel
theorem d_MO_mix_426 : decode prog_8_method_10_code 426 = .ok (.iload_n 2, 1) := by decide +kernel
theorem d_MO_mix_427 : decode prog_8_method_10_code 427 = .ok (.laload, 1) := by decide +kernel
theorem d_MO_mix_428 : decode prog_8_method_10_code 428 = .ok (.aload_n 0, 1) := by decide +kernel
theorem d_MO_mix_429 : decode prog_8_method_10_code 429 = .ok (.getfield 45, 3) := by decide +kernel
theorem d_MO_mix_432 : decode prog_8_method_10_code 432 = .ok (.iload_n 2, 1) := by decide +kernel
theorem d_MO_mix_433 : decode prog_8_method_10_code 433 = .ok (.laload, 1) := by decide +kernel
theorem d_MO_mix_434 : decode prog_8_method_10_code 434 = .ok (.ladd, 1) := by decide +kernel
theorem d_MO_mix_435 : decode prog_8_method_10_code 435 = .ok (.ldc2_w 201, 3) := by decide +kernel
theorem d_MO_mix_438 : decode prog_8_method_10_code 438 = .ok (.land, 1) := by decide +kernel
theorem d_MO_mix_439 : decode prog_8_method_10_code 439 = .ok (.lastore, 1) := by decide +kernel
theorem d_MO_mix_440 : decode prog_8_method_10_code 440 = .ok (.iinc 2 1, 3) := by decide +kernel
theorem d_MO_mix_443 : decode prog_8_method_10_code 443 = .ok (.goto (-32), 3) := by decide +kernel
theorem d_MO_mix_446 : decode prog_8_method_10_code 446 = .ok (.return_, 1) := by decide +kernel
def y_MO_mix : MethodName := ⟨"BootChainModel", "mix", "(I)V"⟩
def ws_MO_mix : List Cond := .code y_MO_mix prog_8_method_10_code 20 none :: bc_G
def f_MO_mix_411 (fr : Int32) (th : Int32) (le : Int32) (lo : Int32) (da : Int32) (si : Int32) (kc : Nat → Int64) (tx : Nat → Int64) (wi : Nat → Int64) (nw : Nat → Int64) (vv : Nat → Int64) : Nat → Int32 → (Nat → Int64) → (Nat → Int64) → (Nat → Int64) → (Nat → Int64) × (Nat → Int64) × (Nat → Int64)
  | 0, x2, y3, y4, y5 => (y3, y4, y5)
  | n + 1, x2, y3, y4, y5 => if (8 : Int32) ≤ x2 then (y3, y4, y5) else f_MO_mix_411 fr th le lo da si kc tx wi nw vv n (x2 + (1 : Int32)) y3 (vp_updL y4 (x2).toNatClampNeg (((y4 (x2).toNatClampNeg) + (y5 (x2).toNatClampNeg)) &&& (4294967295 : Int64))) y5
def f_MO_mix_162 (fr : Int32) (th : Int32) (le : Int32) (lo : Int32) (da : Int32) (si : Int32) (kc : Nat → Int64) (tx : Nat → Int64) (wi : Nat → Int64) (nw : Nat → Int64) (vv : Nat → Int64) : Nat → Int32 → (Nat → Int64) → (Nat → Int64) → (Nat → Int64) → (Nat → Int64) × (Nat → Int64) × (Nat → Int64)
  | 0, x2, y3, y4, y5 => (y3, y4, y5)
  | n + 1, x2, y3, y4, y5 => if (64 : Int32) ≤ x2 then f_MO_mix_411 fr th le lo da si kc tx wi nw vv 9 (0 : Int32) y3 y4 y5 else f_MO_mix_162 fr th le lo da si kc tx wi nw vv n (x2 + (1 : Int32)) y3 y4 (vp_updL (vp_updL y5 (((((64 : Int32) - x2) + (3 : Int32)) - (((64 : Int32) - x2) + (3 : Int32)) / (8 : Int32) * (8 : Int32))).toNatClampNeg (((y5 (((((64 : Int32) - x2) + (3 : Int32)) - (((64 : Int32) - x2) + (3 : Int32)) / (8 : Int32) * (8 : Int32))).toNatClampNeg) + (((((y5 (((((64 : Int32) - x2) + (7 : Int32)) - (((64 : Int32) - x2) + (7 : Int32)) / (8 : Int32) * (8 : Int32))).toNatClampNeg) + (((f_MO_turned (y5 (((((64 : Int32) - x2) + (4 : Int32)) - (((64 : Int32) - x2) + (4 : Int32)) / (8 : Int32) * (8 : Int32))).toNatClampNeg) (6 : Int32)) ^^^ (f_MO_turned (y5 (((((64 : Int32) - x2) + (4 : Int32)) - (((64 : Int32) - x2) + (4 : Int32)) / (8 : Int32) * (8 : Int32))).toNatClampNeg) (11 : Int32))) ^^^ (f_MO_turned (y5 (((((64 : Int32) - x2) + (4 : Int32)) - (((64 : Int32) - x2) + (4 : Int32)) / (8 : Int32) * (8 : Int32))).toNatClampNeg) (25 : Int32)))) + ((y5 (((((64 : Int32) - x2) + (6 : Int32)) - (((64 : Int32) - x2) + (6 : Int32)) / (8 : Int32) * (8 : Int32))).toNatClampNeg) ^^^ ((y5 (((((64 : Int32) - x2) + (4 : Int32)) - (((64 : Int32) - x2) + (4 : Int32)) / (8 : Int32) * (8 : Int32))).toNatClampNeg) &&& ((y5 (((((64 : Int32) - x2) + (5 : Int32)) - (((64 : Int32) - x2) + (5 : Int32)) / (8 : Int32) * (8 : Int32))).toNatClampNeg) ^^^ (y5 (((((64 : Int32) - x2) + (6 : Int32)) - (((64 : Int32) - x2) + (6 : Int32)) / (8 : Int32) * (8 : Int32))).toNatClampNeg))))) + (kc (x2).toNatClampNeg)) + (y3 (x2).toNatClampNeg))) &&& (4294967295 : Int64))) (((((64 : Int32) - x2) + (7 : Int32)) - (((64 : Int32) - x2) + (7 : Int32)) / (8 : Int32) * (8 : Int32))).toNatClampNeg (((((((y5 (((((64 : Int32) - x2) + (7 : Int32)) - (((64 : Int32) - x2) + (7 : Int32)) / (8 : Int32) * (8 : Int32))).toNatClampNeg) + (((f_MO_turned (y5 (((((64 : Int32) - x2) + (4 : Int32)) - (((64 : Int32) - x2) + (4 : Int32)) / (8 : Int32) * (8 : Int32))).toNatClampNeg) (6 : Int32)) ^^^ (f_MO_turned (y5 (((((64 : Int32) - x2) + (4 : Int32)) - (((64 : Int32) - x2) + (4 : Int32)) / (8 : Int32) * (8 : Int32))).toNatClampNeg) (11 : Int32))) ^^^ (f_MO_turned (y5 (((((64 : Int32) - x2) + (4 : Int32)) - (((64 : Int32) - x2) + (4 : Int32)) / (8 : Int32) * (8 : Int32))).toNatClampNeg) (25 : Int32)))) + ((y5 (((((64 : Int32) - x2) + (6 : Int32)) - (((64 : Int32) - x2) + (6 : Int32)) / (8 : Int32) * (8 : Int32))).toNatClampNeg) ^^^ ((y5 (((((64 : Int32) - x2) + (4 : Int32)) - (((64 : Int32) - x2) + (4 : Int32)) / (8 : Int32) * (8 : Int32))).toNatClampNeg) &&& ((y5 (((((64 : Int32) - x2) + (5 : Int32)) - (((64 : Int32) - x2) + (5 : Int32)) / (8 : Int32) * (8 : Int32))).toNatClampNeg) ^^^ (y5 (((((64 : Int32) - x2) + (6 : Int32)) - (((64 : Int32) - x2) + (6 : Int32)) / (8 : Int32) * (8 : Int32))).toNatClampNeg))))) + (kc (x2).toNatClampNeg)) + (y3 (x2).toNatClampNeg)) + ((((f_MO_turned (y5 ((((64 : Int32) - x2) - ((64 : Int32) - x2) / (8 : Int32) * (8 : Int32))).toNatClampNeg) (2 : Int32)) ^^^ (f_MO_turned (y5 ((((64 : Int32) - x2) - ((64 : Int32) - x2) / (8 : Int32) * (8 : Int32))).toNatClampNeg) (13 : Int32))) ^^^ (f_MO_turned (y5 ((((64 : Int32) - x2) - ((64 : Int32) - x2) / (8 : Int32) * (8 : Int32))).toNatClampNeg) (22 : Int32))) + (((y5 ((((64 : Int32) - x2) - ((64 : Int32) - x2) / (8 : Int32) * (8 : Int32))).toNatClampNeg) &&& (y5 (((((64 : Int32) - x2) + (1 : Int32)) - (((64 : Int32) - x2) + (1 : Int32)) / (8 : Int32) * (8 : Int32))).toNatClampNeg)) ||| ((y5 (((((64 : Int32) - x2) + (2 : Int32)) - (((64 : Int32) - x2) + (2 : Int32)) / (8 : Int32) * (8 : Int32))).toNatClampNeg) &&& ((y5 ((((64 : Int32) - x2) - ((64 : Int32) - x2) / (8 : Int32) * (8 : Int32))).toNatClampNeg) ||| (y5 (((((64 : Int32) - x2) + (1 : Int32)) - (((64 : Int32) - x2) + (1 : Int32)) / (8 : Int32) * (8 : Int32))).toNatClampNeg)))))) &&& (4294967295 : Int64)))
def f_MO_mix_136 (fr : Int32) (th : Int32) (le : Int32) (lo : Int32) (da : Int32) (si : Int32) (kc : Nat → Int64) (tx : Nat → Int64) (wi : Nat → Int64) (nw : Nat → Int64) (vv : Nat → Int64) : Nat → Int32 → (Nat → Int64) → (Nat → Int64) → (Nat → Int64) → (Nat → Int64) × (Nat → Int64) × (Nat → Int64)
  | 0, x2, y3, y4, y5 => (y3, y4, y5)
  | n + 1, x2, y3, y4, y5 => if (8 : Int32) ≤ x2 then f_MO_mix_162 fr th le lo da si kc tx wi nw vv 65 (0 : Int32) y3 y4 y5 else f_MO_mix_136 fr th le lo da si kc tx wi nw vv n (x2 + (1 : Int32)) y3 y4 (vp_updL y5 (x2).toNatClampNeg (y4 (x2).toNatClampNeg))
def f_MO_mix_2 (fr : Int32) (th : Int32) (le : Int32) (lo : Int32) (da : Int32) (si : Int32) (kc : Nat → Int64) (tx : Nat → Int64) (wi : Nat → Int64) (nw : Nat → Int64) (vv : Nat → Int64) : Nat → Int32 → (Nat → Int64) → (Nat → Int64) → (Nat → Int64) → (Nat → Int64) × (Nat → Int64) × (Nat → Int64)
  | 0, x2, y3, y4, y5 => (y3, y4, y5)
  | n + 1, x2, y3, y4, y5 => if (64 : Int32) ≤ x2 then f_MO_mix_136 fr th le lo da si kc tx wi nw vv 9 (0 : Int32) y3 y4 y5 else if (16 : Int32) ≤ x2 then f_MO_mix_2 fr th le lo da si kc tx wi nw vv n (x2 + (1 : Int32)) (vp_updL y3 (x2).toNatClampNeg (((((y3 ((x2 - (16 : Int32))).toNatClampNeg) + (((f_MO_turned (y3 ((x2 - (15 : Int32))).toNatClampNeg) (7 : Int32)) ^^^ (f_MO_turned (y3 ((x2 - (15 : Int32))).toNatClampNeg) (18 : Int32))) ^^^ (jsr (y3 ((x2 - (15 : Int32))).toNatClampNeg) (3 : Int32)))) + (y3 ((x2 - (7 : Int32))).toNatClampNeg)) + (((f_MO_turned (y3 ((x2 - (2 : Int32))).toNatClampNeg) (17 : Int32)) ^^^ (f_MO_turned (y3 ((x2 - (2 : Int32))).toNatClampNeg) (19 : Int32))) ^^^ (jsr (y3 ((x2 - (2 : Int32))).toNatClampNeg) (10 : Int32)))) &&& (4294967295 : Int64))) y4 y5 else f_MO_mix_2 fr th le lo da si kc tx wi nw vv n (x2 + (1 : Int32)) (vp_updL y3 (x2).toNatClampNeg (tx ((fr + x2)).toNatClampNeg)) y4 y5
def f_MO_mix (fr : Int32) (th : Int32) (le : Int32) (lo : Int32) (da : Int32) (si : Int32) (kc : Nat → Int64) (tx : Nat → Int64) (wi : Nat → Int64) (nw : Nat → Int64) (vv : Nat → Int64) : (Nat → Int64) × (Nat → Int64) × (Nat → Int64) := f_MO_mix_2 fr th le lo da si kc tx wi nw vv 65 (0 : Int32) wi nw vv
set_option maxHeartbeats 4000000 in
set_option maxRecDepth 100000 in
theorem c_MO_mix (l : Launch) (dC : Nat → ClassId) (dI : Nat → Nat → Nat) (cI cJ : ClassId) (h af ak ar ag ad ac ab ax aw an av aa : Nat) (sz : Nat) (fr : Int32) (th : Int32) (le : Int32) (lo : Int32) (da : Int32) (si : Int32) (kc : Nat → Int64) (tx : Nat → Int64) (wi : Nat → Int64) (nw : Nat → Int64) (vv : Nat → Int64) (hbl : fr = 0 ∨ fr = 16) : Met l y_MO_mix ws_MO_mix ({ frames := 1, cells := 0, slots := 0, locals := 22 } : Room) (va_Pc [.ref h, .int fr] (bc_pre (dC, dI) cI cJ [(h, .inr (5, [.int th, .ref af, .ref ak, .ref ar, .ref ag, .int le, .int lo, .int da, .ref ad, .ref ac, .ref ab, .int si, .ref ax, .ref aw, .ref an, .ref av, .ref aa])), (ac, .inl (cJ, 64, .inr (.inl kc))), (ax, .inl (cJ, 48, .inr (.inl tx))), (aw, .inl (cJ, 64, .inr (.inl wi))), (an, .inl (cJ, 8, .inr (.inl nw))), (av, .inl (cJ, 8, .inr (.inl vv)))] sz)) (va_Qv (fun (_ : Unit) => True) (fun _ => bc_post (dC, dI) cI cJ (va_A [(h, .inr (5, [.int th, .ref af, .ref ak, .ref ar, .ref ag, .int le, .int lo, .int da, .ref ad, .ref ac, .ref ab, .int si, .ref ax, .ref aw, .ref an, .ref av, .ref aa])), (ac, .inl (cJ, 64, .inr (.inl kc))), (ax, .inl (cJ, 48, .inr (.inl tx))), (aw, .inl (cJ, 64, .inr (.inl wi))), (an, .inl (cJ, 8, .inr (.inl nw))), (av, .inl (cJ, 8, .inr (.inl vv)))] sz) [(h, .inr (5, [.int th, .ref af, .ref ak, .ref ar, .ref ag, .int le, .int lo, .int da, .ref ad, .ref ac, .ref ab, .int si, .ref ax, .ref aw, .ref an, .ref av, .ref aa])), (ac, .inl (cJ, 64, .inr (.inl kc))), (ax, .inl (cJ, 48, .inr (.inl tx))), (aw, .inl (cJ, 64, .inr (.inl (f_MO_mix fr th le lo da si kc tx wi nw vv).1))), (an, .inl (cJ, 8, .inr (.inl (f_MO_mix fr th le lo da si kc tx wi nw vv).2.1))), (av, .inl (cJ, 8, .inr (.inl (f_MO_mix fr th le lo da si kc tx wi nw vv).2.2)))]) (va_A [(h, .inr (5, [.int th, .ref af, .ref ak, .ref ar, .ref ag, .int le, .int lo, .int da, .ref ad, .ref ac, .ref ab, .int si, .ref ax, .ref aw, .ref an, .ref av, .ref aa])), (ac, .inl (cJ, 64, .inr (.inl kc))), (ax, .inl (cJ, 48, .inr (.inl tx))), (aw, .inl (cJ, 64, .inr (.inl wi))), (an, .inl (cJ, 8, .inr (.inl nw))), (av, .inl (cJ, 8, .inr (.inl vv)))] sz)) 0 0 (va_A [(h, .inr (5, [.int th, .ref af, .ref ak, .ref ar, .ref ag, .int le, .int lo, .int da, .ref ad, .ref ac, .ref ab, .int si, .ref ax, .ref aw, .ref an, .ref av, .ref aa])), (ac, .inl (cJ, 64, .inr (.inl kc))), (ax, .inl (cJ, 48, .inr (.inl tx))), (aw, .inl (cJ, 64, .inr (.inl wi))), (an, .inl (cJ, 8, .inr (.inl nw))), (av, .inl (cJ, 8, .inr (.inl vv)))] sz) := by
  refine Met.ofW (cc := prog_8_method_10_code) (maxL := 20) (ret := none) (by decide) rfl ?_
  intro p e s m args below meth c s₁ B hml hv
  obtain ⟨rfl, hsz, hP, hK, hD0, hE⟩ := hv
  have hx := B.exec
  have hb := B.bytes
  have hr := B.returns
  have hts : ∀ w ∈ bc_G, w.before ([.ref h, .int fr] : List Value).toArray s = true := fun w h => atoms_spec (ws := ws_MO_mix) B.pre w (List.mem_cons_of_mem _ h)
  have hown : s.vm.findClass "BootChainModel" = some m.cls := findClass_of_methodNamed B.named
  have hlocks := B.notSynchronized
  subst hsz
  have hD := hD0.self (sz := s.heap.size)
  generalize hAe : va_A [(h, .inr (5, [.int th, .ref af, .ref ak, .ref ar, .ref ag, .int le, .int lo, .int da, .ref ad, .ref ac, .ref ab, .int si, .ref ax, .ref aw, .ref an, .ref av, .ref aa])), (ac, .inl (cJ, 64, .inr (.inl kc))), (ax, .inl (cJ, 48, .inr (.inl tx))), (aw, .inl (cJ, 64, .inr (.inl wi))), (an, .inl (cJ, 8, .inr (.inl nw))), (av, .inl (cJ, 8, .inr (.inl vv)))] s.heap.size = A at hD hE ⊢
  have hA : ∀ q : Nat, s.heap.size ≤ q → A q := fun q h => by rw [← hAe]; exact Or.inr h
  have hS : va_S A s.heap s.heap [] := va_S.rf
  have lp_411 : ∀ (n : Nat) (x2 : Int32) (y3 : Nat → Int64) (y4 : Nat → Int64) (y5 : Nat → Int64) (H : Heap) (locs : List Loc) (ls : Array Slot), 0 ≤ x2 ∧ x2 ≤ 8 → ((8 : Int32).toInt - x2.toInt).toNat < n → lv_has ls 20 [(0, .ref h), (2, .int x2)] → va_P (dC, dI) classes [(h, .inr (5, [.int th, .ref af, .ref ak, .ref ar, .ref ag, .int le, .int lo, .int da, .ref ad, .ref ac, .ref ab, .int si, .ref ax, .ref aw, .ref an, .ref av, .ref aa])), (ac, .inl (cJ, 64, .inr (.inl kc))), (ax, .inl (cJ, 48, .inr (.inl tx))), (aw, .inl (cJ, 64, .inr (.inl y3))), (an, .inl (cJ, 8, .inr (.inl y4))), (av, .inl (cJ, 8, .inr (.inl y5)))] H → va_D A [(h, .inr (5, [.int th, .ref af, .ref ak, .ref ar, .ref ag, .int le, .int lo, .int da, .ref ad, .ref ac, .ref ab, .int si, .ref ax, .ref aw, .ref an, .ref av, .ref aa])), (ac, .inl (cJ, 64, .inr (.inl kc))), (ax, .inl (cJ, 48, .inr (.inl tx))), (aw, .inl (cJ, 64, .inr (.inl y3))), (an, .inl (cJ, 8, .inr (.inl y4))), (av, .inl (cJ, 8, .inr (.inl y5)))] → va_S A s.heap H locs → W p l e (headSpec ws_MO_mix ({ frames := 1, cells := 0, slots := 0, locals := 22 } : Room)).room s m ([.ref h, .int fr] : List Value).toArray below meth c H locs 0 0 (MQ below (va_Qv (fun (_ : Unit) => True) (fun _ => bc_post (dC, dI) cI cJ A [(h, .inr (5, [.int th, .ref af, .ref ak, .ref ar, .ref ag, .int le, .int lo, .int da, .ref ad, .ref ac, .ref ab, .int si, .ref ax, .ref aw, .ref an, .ref av, .ref aa])), (ac, .inl (cJ, 64, .inr (.inl kc))), (ax, .inl (cJ, 48, .inr (.inl tx))), (aw, .inl (cJ, 64, .inr (.inl (f_MO_mix_411 fr th le lo da si kc tx wi nw vv n x2 y3 y4 y5).1))), (an, .inl (cJ, 8, .inr (.inl (f_MO_mix_411 fr th le lo da si kc tx wi nw vv n x2 y3 y4 y5).2.1))), (av, .inl (cJ, 8, .inr (.inl (f_MO_mix_411 fr th le lo da si kc tx wi nw vv n x2 y3 y4 y5).2.2)))]) A) ([.ref h, .int fr] : List Value).toArray s 0 0 A) (F0 m 411 ls []) := by
    intro n
    induction n with
    | zero => intro x2 y3 y4 y5 H locs ls hI hm; exact absurd hm (Nat.not_lt_zero _)
    | succ n ih =>
      intro x2 y3 y4 y5 H locs ls hI hm hl hP hD hS
      refine lv_iload_n hx hb d_MO_mix_411 rfl (lv_at hl 1 rfl) ?_
      refine lv_bipush (v := 8) hx hb d_MO_mix_412 (by decide) ?_
      refine lv_icmp_ge (tgt := 446) hx hb d_MO_mix_414 (by decide) (fun h10 => ?_) (fun h10 => ?_)
      · have e0 : (f_MO_mix_411 fr th le lo da si kc tx wi nw vv (n + 1) x2 y3 y4 y5) = (y3, y4, y5) := by rw [f_MO_mix_411, if_pos h10]
        rw [e0]
        exact W.vret hx hb hr (fun t ht hW => ⟨⟨(), rfl, trivial, by rw [ht]; exact hP, va_K.moved hW.alike hK, hD⟩, hS.F ht⟩) hS.2.2 d_MO_mix_446
      · refine lv_aload_n hx hb d_MO_mix_417 rfl (lv_at hl 0 rfl) ?_
        refine va_get (D := (dC, dI)) (ci := 5) (v := .ref an) (C := R_MO) (T := F_MO) (N := 17) hx hb hts in_MO hown hK hP 0 rfl rfl 14 (by decide) (hts _ gw_532) (fun _ h9 => h9) rfl d_MO_mix_418 ?_
        refine lv_iload_n hx hb d_MO_mix_421 rfl (lv_at hl 1 rfl) ?_
        refine lv_aload_n hx hb d_MO_mix_422 rfl (lv_at hl 0 rfl) ?_
        refine va_get (D := (dC, dI)) (ci := 5) (v := .ref an) (C := R_MO) (T := F_MO) (N := 17) hx hb hts in_MO hown hK hP 0 rfl rfl 14 (by decide) (hts _ gw_532) (fun _ h9 => h9) rfl d_MO_mix_423 ?_
        refine lv_iload_n hx hb d_MO_mix_426 rfl (lv_at hl 1 rfl) ?_
        refine va_lald hx hb hK hP 4 1 rfl rfl (by exact ix_sub 8 8 hI.1 (by assumption) rfl (by decide) (by decide)) d_MO_mix_427 ?_
        refine lv_aload_n hx hb d_MO_mix_428 rfl (lv_at hl 0 rfl) ?_
        refine va_get (D := (dC, dI)) (ci := 5) (v := .ref av) (C := R_MO) (T := F_MO) (N := 17) hx hb hts in_MO hown hK hP 0 rfl rfl 15 (by decide) (hts _ gw_533) (fun _ h9 => h9) rfl d_MO_mix_429 ?_
        refine lv_iload_n hx hb d_MO_mix_432 rfl (lv_at hl 1 rfl) ?_
        refine va_lald hx hb hK hP 5 1 rfl rfl (by exact ix_sub 8 8 hI.1 (by assumption) rfl (by decide) (by decide)) d_MO_mix_433 ?_
        refine lv_ladd hx hb d_MO_mix_434 ?_
        refine lv_ldc2 (v := 4294967295) hx hb hown (hts _ gw_579) d_MO_mix_435 ?_
        refine lv_land hx hb d_MO_mix_438 ?_
        refine va_last hx hb hK hP hD hS 4 1 rfl rfl (by exact ix_sub 8 8 hI.1 (by assumption) rfl (by decide) (by decide)) d_MO_mix_439 (fun H locs hP hD hS => ?_)
        have hP : va_P (dC, dI) classes [(h, .inr (5, [.int th, .ref af, .ref ak, .ref ar, .ref ag, .int le, .int lo, .int da, .ref ad, .ref ac, .ref ab, .int si, .ref ax, .ref aw, .ref an, .ref av, .ref aa])), (ac, .inl (cJ, 64, .inr (.inl kc))), (ax, .inl (cJ, 48, .inr (.inl tx))), (aw, .inl (cJ, 64, .inr (.inl y3))), (an, .inl (cJ, 8, .inr (.inl (vp_updL y4 (x2).toNatClampNeg (((y4 (x2).toNatClampNeg) + (y5 (x2).toNatClampNeg)) &&& (4294967295 : Int64)))))), (av, .inl (cJ, 8, .inr (.inl y5)))] H := hP
        have hD : va_D A [(h, .inr (5, [.int th, .ref af, .ref ak, .ref ar, .ref ag, .int le, .int lo, .int da, .ref ad, .ref ac, .ref ab, .int si, .ref ax, .ref aw, .ref an, .ref av, .ref aa])), (ac, .inl (cJ, 64, .inr (.inl kc))), (ax, .inl (cJ, 48, .inr (.inl tx))), (aw, .inl (cJ, 64, .inr (.inl y3))), (an, .inl (cJ, 8, .inr (.inl (vp_updL y4 (x2).toNatClampNeg (((y4 (x2).toNatClampNeg) + (y5 (x2).toNatClampNeg)) &&& (4294967295 : Int64)))))), (av, .inl (cJ, 8, .inr (.inl y5)))] := hD
        refine lv_iinc (k := 1) (v := (x2 + (1 : Int32))) (lv' := [(2, .int (x2 + (1 : Int32))), (0, .ref h)]) hx hb d_MO_mix_440 hl rfl rfl (by decide) rfl (fun ls hl => ?_)
        refine lv_goto (tgt := 411) hx hb d_MO_mix_443 (by decide) ?_
        have e0 : (f_MO_mix_411 fr th le lo da si kc tx wi nw vv (n + 1) x2 y3 y4 y5) = f_MO_mix_411 fr th le lo da si kc tx wi nw vv n (x2 + (1 : Int32)) y3 (vp_updL y4 (x2).toNatClampNeg (((y4 (x2).toNatClampNeg) + (y5 (x2).toNatClampNeg)) &&& (4294967295 : Int64))) y5 := by rw [f_MO_mix_411, if_neg h10]
        rw [e0]
        exact ih (x2 + (1 : Int32)) y3 (vp_updL y4 (x2).toNatClampNeg (((y4 (x2).toNatClampNeg) + (y5 (x2).toNatClampNeg)) &&& (4294967295 : Int64))) y5 _ _ ls (lp_up hI.1 (by assumption)).1 (lp_ms hI.1 (by assumption) hm) (lv_sub hl [1, 0] rfl) hP hD hS
  have lp_162 : ∀ (n : Nat) (x2 : Int32) (y3 : Nat → Int64) (y4 : Nat → Int64) (y5 : Nat → Int64) (H : Heap) (locs : List Loc) (ls : Array Slot), 0 ≤ x2 ∧ x2 ≤ 64 → ((64 : Int32).toInt - x2.toInt).toNat < n → lv_has ls 20 [(0, .ref h), (2, .int x2)] → va_P (dC, dI) classes [(h, .inr (5, [.int th, .ref af, .ref ak, .ref ar, .ref ag, .int le, .int lo, .int da, .ref ad, .ref ac, .ref ab, .int si, .ref ax, .ref aw, .ref an, .ref av, .ref aa])), (ac, .inl (cJ, 64, .inr (.inl kc))), (ax, .inl (cJ, 48, .inr (.inl tx))), (aw, .inl (cJ, 64, .inr (.inl y3))), (an, .inl (cJ, 8, .inr (.inl y4))), (av, .inl (cJ, 8, .inr (.inl y5)))] H → va_D A [(h, .inr (5, [.int th, .ref af, .ref ak, .ref ar, .ref ag, .int le, .int lo, .int da, .ref ad, .ref ac, .ref ab, .int si, .ref ax, .ref aw, .ref an, .ref av, .ref aa])), (ac, .inl (cJ, 64, .inr (.inl kc))), (ax, .inl (cJ, 48, .inr (.inl tx))), (aw, .inl (cJ, 64, .inr (.inl y3))), (an, .inl (cJ, 8, .inr (.inl y4))), (av, .inl (cJ, 8, .inr (.inl y5)))] → va_S A s.heap H locs → W p l e (headSpec ws_MO_mix ({ frames := 1, cells := 0, slots := 0, locals := 22 } : Room)).room s m ([.ref h, .int fr] : List Value).toArray below meth c H locs 0 0 (MQ below (va_Qv (fun (_ : Unit) => True) (fun _ => bc_post (dC, dI) cI cJ A [(h, .inr (5, [.int th, .ref af, .ref ak, .ref ar, .ref ag, .int le, .int lo, .int da, .ref ad, .ref ac, .ref ab, .int si, .ref ax, .ref aw, .ref an, .ref av, .ref aa])), (ac, .inl (cJ, 64, .inr (.inl kc))), (ax, .inl (cJ, 48, .inr (.inl tx))), (aw, .inl (cJ, 64, .inr (.inl (f_MO_mix_162 fr th le lo da si kc tx wi nw vv n x2 y3 y4 y5).1))), (an, .inl (cJ, 8, .inr (.inl (f_MO_mix_162 fr th le lo da si kc tx wi nw vv n x2 y3 y4 y5).2.1))), (av, .inl (cJ, 8, .inr (.inl (f_MO_mix_162 fr th le lo da si kc tx wi nw vv n x2 y3 y4 y5).2.2)))]) A) ([.ref h, .int fr] : List Value).toArray s 0 0 A) (F0 m 162 ls []) := by
    intro n
    induction n with
    | zero => intro x2 y3 y4 y5 H locs ls hI hm; exact absurd hm (Nat.not_lt_zero _)
    | succ n ih =>
      intro x2 y3 y4 y5 H locs ls hI hm hl hP hD hS
      refine lv_iload_n hx hb d_MO_mix_162 rfl (lv_at hl 1 rfl) ?_
      refine lv_bipush (v := 64) hx hb d_MO_mix_163 (by decide) ?_
      refine lv_icmp_ge (tgt := 409) hx hb d_MO_mix_165 (by decide) (fun h9 => ?_) (fun h9 => ?_)
      · refine lv_iconst (v := 0) hx hb d_MO_mix_409 (by decide) ?_
        refine lv_istore_n (lv' := [(2, .int (0 : Int32)), (0, .ref h)]) hx hb d_MO_mix_410 rfl hl (by decide) rfl (fun ls hl => ?_)
        have e0 : (f_MO_mix_162 fr th le lo da si kc tx wi nw vv (n + 1) x2 y3 y4 y5) = f_MO_mix_411 fr th le lo da si kc tx wi nw vv 9 (0 : Int32) y3 y4 y5 := by rw [f_MO_mix_162, if_pos h9]
        rw [e0]
        exact lp_411 9 (0 : Int32) y3 y4 y5 _ _ ls ⟨by decide, by decide⟩ (by decide) (lv_sub hl [1, 0] rfl) hP hD hS
      · refine lv_bipush (v := 64) hx hb d_MO_mix_168 (by decide) ?_
        refine lv_iload_n hx hb d_MO_mix_170 rfl (lv_at hl 1 rfl) ?_
        refine lv_isub hx hb d_MO_mix_171 ?_
        refine lv_istore_n (lv' := [(3, .int ((64 : Int32) - x2)), (0, .ref h), (2, .int x2)]) hx hb d_MO_mix_172 rfl hl (by decide) rfl (fun ls hl => ?_)
        refine lv_aload_n hx hb d_MO_mix_173 rfl (lv_at hl 1 rfl) ?_
        refine va_get (D := (dC, dI)) (ci := 5) (v := .ref av) (C := R_MO) (T := F_MO) (N := 17) hx hb hts in_MO hown hK hP 0 rfl rfl 15 (by decide) (hts _ gw_533) (fun _ h9 => h9) rfl d_MO_mix_174 ?_
        refine lv_iload_n hx hb d_MO_mix_177 rfl (lv_at hl 0 rfl) ?_
        refine lv_iconst (v := 4) hx hb d_MO_mix_178 (by decide) ?_
        refine lv_iadd hx hb d_MO_mix_179 ?_
        refine lv_bipush (v := 8) hx hb d_MO_mix_180 (by decide) ?_
        refine lv_irem hx hb d_MO_mix_182 (by decide) ?_
        refine va_lald hx hb hK hP 5 1 rfl rfl (by exact ix_rem8 (p64c 4 hI.1 (by assumption) (by decide))) d_MO_mix_183 ?_
        refine lv_lstore (lv' := [(4, .long (y5 (((((64 : Int32) - x2) + (4 : Int32)) - (((64 : Int32) - x2) + (4 : Int32)) / (8 : Int32) * (8 : Int32))).toNatClampNeg)), (3, .int ((64 : Int32) - x2)), (0, .ref h), (2, .int x2)]) hx hb d_MO_mix_184 hl (by decide) rfl (fun ls hl => ?_)
        refine lv_aload_n hx hb d_MO_mix_186 rfl (lv_at hl 2 rfl) ?_
        refine va_get (D := (dC, dI)) (ci := 5) (v := .ref av) (C := R_MO) (T := F_MO) (N := 17) hx hb hts in_MO hown hK hP 0 rfl rfl 15 (by decide) (hts _ gw_533) (fun _ h9 => h9) rfl d_MO_mix_187 ?_
        refine lv_iload_n hx hb d_MO_mix_190 rfl (lv_at hl 1 rfl) ?_
        refine lv_bipush (v := 8) hx hb d_MO_mix_191 (by decide) ?_
        refine lv_irem hx hb d_MO_mix_193 (by decide) ?_
        refine va_lald hx hb hK hP 5 1 rfl rfl (by exact ix_rem8 (p64z hI.1 (by assumption))) d_MO_mix_194 ?_
        refine lv_lstore (lv' := [(6, .long (y5 ((((64 : Int32) - x2) - ((64 : Int32) - x2) / (8 : Int32) * (8 : Int32))).toNatClampNeg)), (4, .long (y5 (((((64 : Int32) - x2) + (4 : Int32)) - (((64 : Int32) - x2) + (4 : Int32)) / (8 : Int32) * (8 : Int32))).toNatClampNeg)), (3, .int ((64 : Int32) - x2)), (0, .ref h), (2, .int x2)]) hx hb d_MO_mix_195 hl (by decide) rfl (fun ls hl => ?_)
        refine lv_aload_n hx hb d_MO_mix_197 rfl (lv_at hl 3 rfl) ?_
        refine va_get (D := (dC, dI)) (ci := 5) (v := .ref av) (C := R_MO) (T := F_MO) (N := 17) hx hb hts in_MO hown hK hP 0 rfl rfl 15 (by decide) (hts _ gw_533) (fun _ h9 => h9) rfl d_MO_mix_198 ?_
        refine lv_iload_n hx hb d_MO_mix_201 rfl (lv_at hl 2 rfl) ?_
        refine lv_iconst (v := 5) hx hb d_MO_mix_202 (by decide) ?_
        refine lv_iadd hx hb d_MO_mix_203 ?_
        refine lv_bipush (v := 8) hx hb d_MO_mix_204 (by decide) ?_
        refine lv_irem hx hb d_MO_mix_206 (by decide) ?_
        refine va_lald hx hb hK hP 5 1 rfl rfl (by exact ix_rem8 (p64c 5 hI.1 (by assumption) (by decide))) d_MO_mix_207 ?_
        refine lv_lstore (lv' := [(8, .long (y5 (((((64 : Int32) - x2) + (5 : Int32)) - (((64 : Int32) - x2) + (5 : Int32)) / (8 : Int32) * (8 : Int32))).toNatClampNeg)), (6, .long (y5 ((((64 : Int32) - x2) - ((64 : Int32) - x2) / (8 : Int32) * (8 : Int32))).toNatClampNeg)), (4, .long (y5 (((((64 : Int32) - x2) + (4 : Int32)) - (((64 : Int32) - x2) + (4 : Int32)) / (8 : Int32) * (8 : Int32))).toNatClampNeg)), (3, .int ((64 : Int32) - x2)), (0, .ref h), (2, .int x2)]) hx hb d_MO_mix_208 hl (by decide) rfl (fun ls hl => ?_)
        refine lv_aload_n hx hb d_MO_mix_210 rfl (lv_at hl 4 rfl) ?_
        refine va_get (D := (dC, dI)) (ci := 5) (v := .ref av) (C := R_MO) (T := F_MO) (N := 17) hx hb hts in_MO hown hK hP 0 rfl rfl 15 (by decide) (hts _ gw_533) (fun _ h9 => h9) rfl d_MO_mix_211 ?_
        refine lv_iload_n hx hb d_MO_mix_214 rfl (lv_at hl 3 rfl) ?_
        refine lv_bipush (v := 6) hx hb d_MO_mix_215 (by decide) ?_
        refine lv_iadd hx hb d_MO_mix_217 ?_
        refine lv_bipush (v := 8) hx hb d_MO_mix_218 (by decide) ?_
        refine lv_irem hx hb d_MO_mix_220 (by decide) ?_
        refine va_lald hx hb hK hP 5 1 rfl rfl (by exact ix_rem8 (p64c 6 hI.1 (by assumption) (by decide))) d_MO_mix_221 ?_
        refine lv_lstore (lv' := [(10, .long (y5 (((((64 : Int32) - x2) + (6 : Int32)) - (((64 : Int32) - x2) + (6 : Int32)) / (8 : Int32) * (8 : Int32))).toNatClampNeg)), (8, .long (y5 (((((64 : Int32) - x2) + (5 : Int32)) - (((64 : Int32) - x2) + (5 : Int32)) / (8 : Int32) * (8 : Int32))).toNatClampNeg)), (6, .long (y5 ((((64 : Int32) - x2) - ((64 : Int32) - x2) / (8 : Int32) * (8 : Int32))).toNatClampNeg)), (4, .long (y5 (((((64 : Int32) - x2) + (4 : Int32)) - (((64 : Int32) - x2) + (4 : Int32)) / (8 : Int32) * (8 : Int32))).toNatClampNeg)), (3, .int ((64 : Int32) - x2)), (0, .ref h), (2, .int x2)]) hx hb d_MO_mix_222 hl (by decide) rfl (fun ls hl => ?_)
        refine lv_aload_n hx hb d_MO_mix_224 rfl (lv_at hl 5 rfl) ?_
        refine va_get (D := (dC, dI)) (ci := 5) (v := .ref av) (C := R_MO) (T := F_MO) (N := 17) hx hb hts in_MO hown hK hP 0 rfl rfl 15 (by decide) (hts _ gw_533) (fun _ h9 => h9) rfl d_MO_mix_225 ?_
        refine lv_iload_n hx hb d_MO_mix_228 rfl (lv_at hl 4 rfl) ?_
        refine lv_iconst (v := 1) hx hb d_MO_mix_229 (by decide) ?_
        refine lv_iadd hx hb d_MO_mix_230 ?_
        refine lv_bipush (v := 8) hx hb d_MO_mix_231 (by decide) ?_
        refine lv_irem hx hb d_MO_mix_233 (by decide) ?_
        refine va_lald hx hb hK hP 5 1 rfl rfl (by exact ix_rem8 (p64c 1 hI.1 (by assumption) (by decide))) d_MO_mix_234 ?_
        refine lv_lstore (lv' := [(12, .long (y5 (((((64 : Int32) - x2) + (1 : Int32)) - (((64 : Int32) - x2) + (1 : Int32)) / (8 : Int32) * (8 : Int32))).toNatClampNeg)), (10, .long (y5 (((((64 : Int32) - x2) + (6 : Int32)) - (((64 : Int32) - x2) + (6 : Int32)) / (8 : Int32) * (8 : Int32))).toNatClampNeg)), (8, .long (y5 (((((64 : Int32) - x2) + (5 : Int32)) - (((64 : Int32) - x2) + (5 : Int32)) / (8 : Int32) * (8 : Int32))).toNatClampNeg)), (6, .long (y5 ((((64 : Int32) - x2) - ((64 : Int32) - x2) / (8 : Int32) * (8 : Int32))).toNatClampNeg)), (4, .long (y5 (((((64 : Int32) - x2) + (4 : Int32)) - (((64 : Int32) - x2) + (4 : Int32)) / (8 : Int32) * (8 : Int32))).toNatClampNeg)), (3, .int ((64 : Int32) - x2)), (0, .ref h), (2, .int x2)]) hx hb d_MO_mix_235 hl (by decide) rfl (fun ls hl => ?_)
        refine lv_aload_n hx hb d_MO_mix_237 rfl (lv_at hl 6 rfl) ?_
        refine va_get (D := (dC, dI)) (ci := 5) (v := .ref av) (C := R_MO) (T := F_MO) (N := 17) hx hb hts in_MO hown hK hP 0 rfl rfl 15 (by decide) (hts _ gw_533) (fun _ h9 => h9) rfl d_MO_mix_238 ?_
        refine lv_iload_n hx hb d_MO_mix_241 rfl (lv_at hl 5 rfl) ?_
        refine lv_iconst (v := 2) hx hb d_MO_mix_242 (by decide) ?_
        refine lv_iadd hx hb d_MO_mix_243 ?_
        refine lv_bipush (v := 8) hx hb d_MO_mix_244 (by decide) ?_
        refine lv_irem hx hb d_MO_mix_246 (by decide) ?_
        refine va_lald hx hb hK hP 5 1 rfl rfl (by exact ix_rem8 (p64c 2 hI.1 (by assumption) (by decide))) d_MO_mix_247 ?_
        refine lv_lstore (lv' := [(14, .long (y5 (((((64 : Int32) - x2) + (2 : Int32)) - (((64 : Int32) - x2) + (2 : Int32)) / (8 : Int32) * (8 : Int32))).toNatClampNeg)), (12, .long (y5 (((((64 : Int32) - x2) + (1 : Int32)) - (((64 : Int32) - x2) + (1 : Int32)) / (8 : Int32) * (8 : Int32))).toNatClampNeg)), (10, .long (y5 (((((64 : Int32) - x2) + (6 : Int32)) - (((64 : Int32) - x2) + (6 : Int32)) / (8 : Int32) * (8 : Int32))).toNatClampNeg)), (8, .long (y5 (((((64 : Int32) - x2) + (5 : Int32)) - (((64 : Int32) - x2) + (5 : Int32)) / (8 : Int32) * (8 : Int32))).toNatClampNeg)), (6, .long (y5 ((((64 : Int32) - x2) - ((64 : Int32) - x2) / (8 : Int32) * (8 : Int32))).toNatClampNeg)), (4, .long (y5 (((((64 : Int32) - x2) + (4 : Int32)) - (((64 : Int32) - x2) + (4 : Int32)) / (8 : Int32) * (8 : Int32))).toNatClampNeg)), (3, .int ((64 : Int32) - x2)), (0, .ref h), (2, .int x2)]) hx hb d_MO_mix_248 hl (by decide) rfl (fun ls hl => ?_)
        refine lv_aload_n hx hb d_MO_mix_250 rfl (lv_at hl 7 rfl) ?_
        refine va_get (D := (dC, dI)) (ci := 5) (v := .ref av) (C := R_MO) (T := F_MO) (N := 17) hx hb hts in_MO hown hK hP 0 rfl rfl 15 (by decide) (hts _ gw_533) (fun _ h9 => h9) rfl d_MO_mix_251 ?_
        refine lv_iload_n hx hb d_MO_mix_254 rfl (lv_at hl 6 rfl) ?_
        refine lv_bipush (v := 7) hx hb d_MO_mix_255 (by decide) ?_
        refine lv_iadd hx hb d_MO_mix_257 ?_
        refine lv_bipush (v := 8) hx hb d_MO_mix_258 (by decide) ?_
        refine lv_irem hx hb d_MO_mix_260 (by decide) ?_
        refine va_lald hx hb hK hP 5 1 rfl rfl (by exact ix_rem8 (p64c 7 hI.1 (by assumption) (by decide))) d_MO_mix_261 ?_
        refine lv_lload hx hb d_MO_mix_262 (lv_at hl 5 rfl) ?_
        refine lv_bipush (v := 6) hx hb d_MO_mix_264 (by decide) ?_
        have hPc := hP.sub (ws' := []) [] rfl
        have hDc := hD.sub (ws' := []) [] (by decide) rfl
        have hFc := va_free (wc := []) hD hS hA [] rfl
        refine va_calll (va_runS (As := [.long (y5 (((((64 : Int32) - x2) + (4 : Int32)) - (((64 : Int32) - x2) + (4 : Int32)) / (8 : Int32) * (8 : Int32))).toNatClampNeg), .int (6 : Int32)]) (rest := [.long (y5 (((((64 : Int32) - x2) + (7 : Int32)) - (((64 : Int32) - x2) + (7 : Int32)) / (8 : Int32) * (8 : Int32))).toNatClampNeg)]) ⟨hx, hb, hml, hown, hts⟩ (c_MO_turned l dC dI cI cJ _ (y5 (((((64 : Int32) - x2) + (4 : Int32)) - (((64 : Int32) - x2) + (4 : Int32)) / (8 : Int32) * (8 : Int32))).toNatClampNeg) (6 : Int32)) ⟨callB_of 2 hts (bc_good gw_609) rfl rfl rfl (hts _ gw_6) (hts _ gw_607) (by decide +kernel) ⟨Nat.le_of_ble_eq_true rfl, Nat.le_of_ble_eq_true rfl⟩, (hts _ gw_608)⟩ ⟨bc_blind, fun U hU hW => ⟨rfl, bc_give hPc hDc hK hE hS hFc U hU hW⟩⟩ rfl rfl hl.1 rfl (lv_room (Nat.le_of_ble_eq_true rfl)) d_MO_mix_266 ⟨Nat.le_of_ble_eq_true rfl, Nat.le_of_ble_eq_true rfl⟩) hS (fun q _ h => hFc q h) hFc (fun r u t H9 locs ht hvm hp hB hz1 hk1 hS => ?_)
        subst hp
        obtain ⟨hP, hD⟩ := va_join (wr := [(h, .inr (5, [.int th, .ref af, .ref ak, .ref ar, .ref ag, .int le, .int lo, .int da, .ref ad, .ref ac, .ref ab, .int si, .ref ax, .ref aw, .ref an, .ref av, .ref aa])), (ac, .inl (cJ, 64, .inr (.inl kc))), (ax, .inl (cJ, 48, .inr (.inl tx))), (aw, .inl (cJ, 64, .inr (.inl y3))), (an, .inl (cJ, 8, .inr (.inl y4))), (av, .inl (cJ, 8, .inr (.inl y5)))]) (w1 := []) hP hD [] [0, 1, 2, 3, 4, 5] rfl rfl (by decide) (by decide) hk1 hFc (ht ▸ hB.1) hB.2.2
        have hP := hP.sub (ws' := [(h, .inr (5, [.int th, .ref af, .ref ak, .ref ar, .ref ag, .int le, .int lo, .int da, .ref ad, .ref ac, .ref ab, .int si, .ref ax, .ref aw, .ref an, .ref av, .ref aa])), (ac, .inl (cJ, 64, .inr (.inl kc))), (ax, .inl (cJ, 48, .inr (.inl tx))), (aw, .inl (cJ, 64, .inr (.inl y3))), (an, .inl (cJ, 8, .inr (.inl y4))), (av, .inl (cJ, 8, .inr (.inl y5)))]) [0, 1, 2, 3, 4, 5] rfl
        have hD := hD.sub (ws' := [(h, .inr (5, [.int th, .ref af, .ref ak, .ref ar, .ref ag, .int le, .int lo, .int da, .ref ad, .ref ac, .ref ab, .int si, .ref ax, .ref aw, .ref an, .ref av, .ref aa])), (ac, .inl (cJ, 64, .inr (.inl kc))), (ax, .inl (cJ, 48, .inr (.inl tx))), (aw, .inl (cJ, 64, .inr (.inl y3))), (an, .inl (cJ, 8, .inr (.inl y4))), (av, .inl (cJ, 8, .inr (.inl y5)))]) [0, 1, 2, 3, 4, 5] (by decide) rfl
        generalize H9 = H at hP hS ⊢
        refine lv_lload hx hb d_MO_mix_269 (lv_at hl 5 rfl) ?_
        refine lv_bipush (v := 11) hx hb d_MO_mix_271 (by decide) ?_
        have hPc := hP.sub (ws' := []) [] rfl
        have hDc := hD.sub (ws' := []) [] (by decide) rfl
        have hFc := va_free (wc := []) hD hS hA [] rfl
        refine va_calll (va_runS (As := [.long (y5 (((((64 : Int32) - x2) + (4 : Int32)) - (((64 : Int32) - x2) + (4 : Int32)) / (8 : Int32) * (8 : Int32))).toNatClampNeg), .int (11 : Int32)]) (rest := [.long (f_MO_turned (y5 (((((64 : Int32) - x2) + (4 : Int32)) - (((64 : Int32) - x2) + (4 : Int32)) / (8 : Int32) * (8 : Int32))).toNatClampNeg) (6 : Int32)), .long (y5 (((((64 : Int32) - x2) + (7 : Int32)) - (((64 : Int32) - x2) + (7 : Int32)) / (8 : Int32) * (8 : Int32))).toNatClampNeg)]) ⟨hx, hb, hml, hown, hts⟩ (c_MO_turned l dC dI cI cJ _ (y5 (((((64 : Int32) - x2) + (4 : Int32)) - (((64 : Int32) - x2) + (4 : Int32)) / (8 : Int32) * (8 : Int32))).toNatClampNeg) (11 : Int32)) ⟨callB_of 2 hts (bc_good gw_609) rfl rfl rfl (hts _ gw_6) (hts _ gw_607) (by decide +kernel) ⟨Nat.le_of_ble_eq_true rfl, Nat.le_of_ble_eq_true rfl⟩, (hts _ gw_608)⟩ ⟨bc_blind, fun U hU hW => ⟨rfl, bc_give hPc hDc hK hE hS hFc U hU hW⟩⟩ rfl rfl hl.1 rfl (lv_room (Nat.le_of_ble_eq_true rfl)) d_MO_mix_273 ⟨Nat.le_of_ble_eq_true rfl, Nat.le_of_ble_eq_true rfl⟩) hS (fun q _ h => hFc q h) hFc (fun r u t H9 locs ht hvm hp hB hz1 hk1 hS => ?_)
        subst hp
        obtain ⟨hP, hD⟩ := va_join (wr := [(h, .inr (5, [.int th, .ref af, .ref ak, .ref ar, .ref ag, .int le, .int lo, .int da, .ref ad, .ref ac, .ref ab, .int si, .ref ax, .ref aw, .ref an, .ref av, .ref aa])), (ac, .inl (cJ, 64, .inr (.inl kc))), (ax, .inl (cJ, 48, .inr (.inl tx))), (aw, .inl (cJ, 64, .inr (.inl y3))), (an, .inl (cJ, 8, .inr (.inl y4))), (av, .inl (cJ, 8, .inr (.inl y5)))]) (w1 := []) hP hD [] [0, 1, 2, 3, 4, 5] rfl rfl (by decide) (by decide) hk1 hFc (ht ▸ hB.1) hB.2.2
        have hP := hP.sub (ws' := [(h, .inr (5, [.int th, .ref af, .ref ak, .ref ar, .ref ag, .int le, .int lo, .int da, .ref ad, .ref ac, .ref ab, .int si, .ref ax, .ref aw, .ref an, .ref av, .ref aa])), (ac, .inl (cJ, 64, .inr (.inl kc))), (ax, .inl (cJ, 48, .inr (.inl tx))), (aw, .inl (cJ, 64, .inr (.inl y3))), (an, .inl (cJ, 8, .inr (.inl y4))), (av, .inl (cJ, 8, .inr (.inl y5)))]) [0, 1, 2, 3, 4, 5] rfl
        have hD := hD.sub (ws' := [(h, .inr (5, [.int th, .ref af, .ref ak, .ref ar, .ref ag, .int le, .int lo, .int da, .ref ad, .ref ac, .ref ab, .int si, .ref ax, .ref aw, .ref an, .ref av, .ref aa])), (ac, .inl (cJ, 64, .inr (.inl kc))), (ax, .inl (cJ, 48, .inr (.inl tx))), (aw, .inl (cJ, 64, .inr (.inl y3))), (an, .inl (cJ, 8, .inr (.inl y4))), (av, .inl (cJ, 8, .inr (.inl y5)))]) [0, 1, 2, 3, 4, 5] (by decide) rfl
        generalize H9 = H at hP hS ⊢
        refine lv_lxor hx hb d_MO_mix_276 ?_
        refine lv_lload hx hb d_MO_mix_277 (lv_at hl 5 rfl) ?_
        refine lv_bipush (v := 25) hx hb d_MO_mix_279 (by decide) ?_
        have hPc := hP.sub (ws' := []) [] rfl
        have hDc := hD.sub (ws' := []) [] (by decide) rfl
        have hFc := va_free (wc := []) hD hS hA [] rfl
        refine va_calll (va_runS (As := [.long (y5 (((((64 : Int32) - x2) + (4 : Int32)) - (((64 : Int32) - x2) + (4 : Int32)) / (8 : Int32) * (8 : Int32))).toNatClampNeg), .int (25 : Int32)]) (rest := [.long ((f_MO_turned (y5 (((((64 : Int32) - x2) + (4 : Int32)) - (((64 : Int32) - x2) + (4 : Int32)) / (8 : Int32) * (8 : Int32))).toNatClampNeg) (6 : Int32)) ^^^ (f_MO_turned (y5 (((((64 : Int32) - x2) + (4 : Int32)) - (((64 : Int32) - x2) + (4 : Int32)) / (8 : Int32) * (8 : Int32))).toNatClampNeg) (11 : Int32))), .long (y5 (((((64 : Int32) - x2) + (7 : Int32)) - (((64 : Int32) - x2) + (7 : Int32)) / (8 : Int32) * (8 : Int32))).toNatClampNeg)]) ⟨hx, hb, hml, hown, hts⟩ (c_MO_turned l dC dI cI cJ _ (y5 (((((64 : Int32) - x2) + (4 : Int32)) - (((64 : Int32) - x2) + (4 : Int32)) / (8 : Int32) * (8 : Int32))).toNatClampNeg) (25 : Int32)) ⟨callB_of 2 hts (bc_good gw_609) rfl rfl rfl (hts _ gw_6) (hts _ gw_607) (by decide +kernel) ⟨Nat.le_of_ble_eq_true rfl, Nat.le_of_ble_eq_true rfl⟩, (hts _ gw_608)⟩ ⟨bc_blind, fun U hU hW => ⟨rfl, bc_give hPc hDc hK hE hS hFc U hU hW⟩⟩ rfl rfl hl.1 rfl (lv_room (Nat.le_of_ble_eq_true rfl)) d_MO_mix_281 ⟨Nat.le_of_ble_eq_true rfl, Nat.le_of_ble_eq_true rfl⟩) hS (fun q _ h => hFc q h) hFc (fun r u t H9 locs ht hvm hp hB hz1 hk1 hS => ?_)
        subst hp
        obtain ⟨hP, hD⟩ := va_join (wr := [(h, .inr (5, [.int th, .ref af, .ref ak, .ref ar, .ref ag, .int le, .int lo, .int da, .ref ad, .ref ac, .ref ab, .int si, .ref ax, .ref aw, .ref an, .ref av, .ref aa])), (ac, .inl (cJ, 64, .inr (.inl kc))), (ax, .inl (cJ, 48, .inr (.inl tx))), (aw, .inl (cJ, 64, .inr (.inl y3))), (an, .inl (cJ, 8, .inr (.inl y4))), (av, .inl (cJ, 8, .inr (.inl y5)))]) (w1 := []) hP hD [] [0, 1, 2, 3, 4, 5] rfl rfl (by decide) (by decide) hk1 hFc (ht ▸ hB.1) hB.2.2
        have hP := hP.sub (ws' := [(h, .inr (5, [.int th, .ref af, .ref ak, .ref ar, .ref ag, .int le, .int lo, .int da, .ref ad, .ref ac, .ref ab, .int si, .ref ax, .ref aw, .ref an, .ref av, .ref aa])), (ac, .inl (cJ, 64, .inr (.inl kc))), (ax, .inl (cJ, 48, .inr (.inl tx))), (aw, .inl (cJ, 64, .inr (.inl y3))), (an, .inl (cJ, 8, .inr (.inl y4))), (av, .inl (cJ, 8, .inr (.inl y5)))]) [0, 1, 2, 3, 4, 5] rfl
        have hD := hD.sub (ws' := [(h, .inr (5, [.int th, .ref af, .ref ak, .ref ar, .ref ag, .int le, .int lo, .int da, .ref ad, .ref ac, .ref ab, .int si, .ref ax, .ref aw, .ref an, .ref av, .ref aa])), (ac, .inl (cJ, 64, .inr (.inl kc))), (ax, .inl (cJ, 48, .inr (.inl tx))), (aw, .inl (cJ, 64, .inr (.inl y3))), (an, .inl (cJ, 8, .inr (.inl y4))), (av, .inl (cJ, 8, .inr (.inl y5)))]) [0, 1, 2, 3, 4, 5] (by decide) rfl
        generalize H9 = H at hP hS ⊢
        refine lv_lxor hx hb d_MO_mix_284 ?_
        refine lv_ladd hx hb d_MO_mix_285 ?_
        refine lv_lload hx hb d_MO_mix_286 (lv_at hl 2 rfl) ?_
        refine lv_lload hx hb d_MO_mix_288 (lv_at hl 5 rfl) ?_
        refine lv_lload hx hb d_MO_mix_290 (lv_at hl 3 rfl) ?_
        refine lv_lload hx hb d_MO_mix_292 (lv_at hl 2 rfl) ?_
        refine lv_lxor hx hb d_MO_mix_294 ?_
        refine lv_land hx hb d_MO_mix_295 ?_
        refine lv_lxor hx hb d_MO_mix_296 ?_
        refine lv_ladd hx hb d_MO_mix_297 ?_
        refine lv_aload_n hx hb d_MO_mix_298 rfl (lv_at hl 7 rfl) ?_
        refine va_get (D := (dC, dI)) (ci := 5) (v := .ref ac) (C := R_MO) (T := F_MO) (N := 17) hx hb hts in_MO hown hK hP 0 rfl rfl 9 (by decide) (hts _ gw_527) (fun _ h9 => h9) rfl d_MO_mix_299 ?_
        refine lv_iload_n hx hb d_MO_mix_302 rfl (lv_at hl 8 rfl) ?_
        refine va_lald hx hb hK hP 1 1 rfl rfl (by exact ix_sub 64 64 hI.1 (by assumption) rfl (by decide) (by decide)) d_MO_mix_303 ?_
        refine lv_ladd hx hb d_MO_mix_304 ?_
        refine lv_aload_n hx hb d_MO_mix_305 rfl (lv_at hl 7 rfl) ?_
        refine va_get (D := (dC, dI)) (ci := 5) (v := .ref aw) (C := R_MO) (T := F_MO) (N := 17) hx hb hts in_MO hown hK hP 0 rfl rfl 13 (by decide) (hts _ gw_531) (fun _ h9 => h9) rfl d_MO_mix_306 ?_
        refine lv_iload_n hx hb d_MO_mix_309 rfl (lv_at hl 8 rfl) ?_
        refine va_lald hx hb hK hP 3 1 rfl rfl (by exact ix_sub 64 64 hI.1 (by assumption) rfl (by decide) (by decide)) d_MO_mix_310 ?_
        refine lv_ladd hx hb d_MO_mix_311 ?_
        refine lv_lstore (lv' := [(16, .long (((((y5 (((((64 : Int32) - x2) + (7 : Int32)) - (((64 : Int32) - x2) + (7 : Int32)) / (8 : Int32) * (8 : Int32))).toNatClampNeg) + (((f_MO_turned (y5 (((((64 : Int32) - x2) + (4 : Int32)) - (((64 : Int32) - x2) + (4 : Int32)) / (8 : Int32) * (8 : Int32))).toNatClampNeg) (6 : Int32)) ^^^ (f_MO_turned (y5 (((((64 : Int32) - x2) + (4 : Int32)) - (((64 : Int32) - x2) + (4 : Int32)) / (8 : Int32) * (8 : Int32))).toNatClampNeg) (11 : Int32))) ^^^ (f_MO_turned (y5 (((((64 : Int32) - x2) + (4 : Int32)) - (((64 : Int32) - x2) + (4 : Int32)) / (8 : Int32) * (8 : Int32))).toNatClampNeg) (25 : Int32)))) + ((y5 (((((64 : Int32) - x2) + (6 : Int32)) - (((64 : Int32) - x2) + (6 : Int32)) / (8 : Int32) * (8 : Int32))).toNatClampNeg) ^^^ ((y5 (((((64 : Int32) - x2) + (4 : Int32)) - (((64 : Int32) - x2) + (4 : Int32)) / (8 : Int32) * (8 : Int32))).toNatClampNeg) &&& ((y5 (((((64 : Int32) - x2) + (5 : Int32)) - (((64 : Int32) - x2) + (5 : Int32)) / (8 : Int32) * (8 : Int32))).toNatClampNeg) ^^^ (y5 (((((64 : Int32) - x2) + (6 : Int32)) - (((64 : Int32) - x2) + (6 : Int32)) / (8 : Int32) * (8 : Int32))).toNatClampNeg))))) + (kc (x2).toNatClampNeg)) + (y3 (x2).toNatClampNeg))), (14, .long (y5 (((((64 : Int32) - x2) + (2 : Int32)) - (((64 : Int32) - x2) + (2 : Int32)) / (8 : Int32) * (8 : Int32))).toNatClampNeg)), (12, .long (y5 (((((64 : Int32) - x2) + (1 : Int32)) - (((64 : Int32) - x2) + (1 : Int32)) / (8 : Int32) * (8 : Int32))).toNatClampNeg)), (10, .long (y5 (((((64 : Int32) - x2) + (6 : Int32)) - (((64 : Int32) - x2) + (6 : Int32)) / (8 : Int32) * (8 : Int32))).toNatClampNeg)), (8, .long (y5 (((((64 : Int32) - x2) + (5 : Int32)) - (((64 : Int32) - x2) + (5 : Int32)) / (8 : Int32) * (8 : Int32))).toNatClampNeg)), (6, .long (y5 ((((64 : Int32) - x2) - ((64 : Int32) - x2) / (8 : Int32) * (8 : Int32))).toNatClampNeg)), (4, .long (y5 (((((64 : Int32) - x2) + (4 : Int32)) - (((64 : Int32) - x2) + (4 : Int32)) / (8 : Int32) * (8 : Int32))).toNatClampNeg)), (3, .int ((64 : Int32) - x2)), (0, .ref h), (2, .int x2)]) hx hb d_MO_mix_312 hl (by decide) rfl (fun ls hl => ?_)
        refine lv_lload hx hb d_MO_mix_314 (lv_at hl 5 rfl) ?_
        refine lv_iconst (v := 2) hx hb d_MO_mix_316 (by decide) ?_
        have hPc := hP.sub (ws' := []) [] rfl
        have hDc := hD.sub (ws' := []) [] (by decide) rfl
        have hFc := va_free (wc := []) hD hS hA [] rfl
        refine va_calll (va_runS (As := [.long (y5 ((((64 : Int32) - x2) - ((64 : Int32) - x2) / (8 : Int32) * (8 : Int32))).toNatClampNeg), .int (2 : Int32)]) (rest := []) ⟨hx, hb, hml, hown, hts⟩ (c_MO_turned l dC dI cI cJ _ (y5 ((((64 : Int32) - x2) - ((64 : Int32) - x2) / (8 : Int32) * (8 : Int32))).toNatClampNeg) (2 : Int32)) ⟨callB_of 2 hts (bc_good gw_609) rfl rfl rfl (hts _ gw_6) (hts _ gw_607) (by decide +kernel) ⟨Nat.le_of_ble_eq_true rfl, Nat.le_of_ble_eq_true rfl⟩, (hts _ gw_608)⟩ ⟨bc_blind, fun U hU hW => ⟨rfl, bc_give hPc hDc hK hE hS hFc U hU hW⟩⟩ rfl rfl hl.1 rfl (lv_room (Nat.le_of_ble_eq_true rfl)) d_MO_mix_317 ⟨Nat.le_of_ble_eq_true rfl, Nat.le_of_ble_eq_true rfl⟩) hS (fun q _ h => hFc q h) hFc (fun r u t H9 locs ht hvm hp hB hz1 hk1 hS => ?_)
        subst hp
        obtain ⟨hP, hD⟩ := va_join (wr := [(h, .inr (5, [.int th, .ref af, .ref ak, .ref ar, .ref ag, .int le, .int lo, .int da, .ref ad, .ref ac, .ref ab, .int si, .ref ax, .ref aw, .ref an, .ref av, .ref aa])), (ac, .inl (cJ, 64, .inr (.inl kc))), (ax, .inl (cJ, 48, .inr (.inl tx))), (aw, .inl (cJ, 64, .inr (.inl y3))), (an, .inl (cJ, 8, .inr (.inl y4))), (av, .inl (cJ, 8, .inr (.inl y5)))]) (w1 := []) hP hD [] [0, 1, 2, 3, 4, 5] rfl rfl (by decide) (by decide) hk1 hFc (ht ▸ hB.1) hB.2.2
        have hP := hP.sub (ws' := [(h, .inr (5, [.int th, .ref af, .ref ak, .ref ar, .ref ag, .int le, .int lo, .int da, .ref ad, .ref ac, .ref ab, .int si, .ref ax, .ref aw, .ref an, .ref av, .ref aa])), (ac, .inl (cJ, 64, .inr (.inl kc))), (ax, .inl (cJ, 48, .inr (.inl tx))), (aw, .inl (cJ, 64, .inr (.inl y3))), (an, .inl (cJ, 8, .inr (.inl y4))), (av, .inl (cJ, 8, .inr (.inl y5)))]) [0, 1, 2, 3, 4, 5] rfl
        have hD := hD.sub (ws' := [(h, .inr (5, [.int th, .ref af, .ref ak, .ref ar, .ref ag, .int le, .int lo, .int da, .ref ad, .ref ac, .ref ab, .int si, .ref ax, .ref aw, .ref an, .ref av, .ref aa])), (ac, .inl (cJ, 64, .inr (.inl kc))), (ax, .inl (cJ, 48, .inr (.inl tx))), (aw, .inl (cJ, 64, .inr (.inl y3))), (an, .inl (cJ, 8, .inr (.inl y4))), (av, .inl (cJ, 8, .inr (.inl y5)))]) [0, 1, 2, 3, 4, 5] (by decide) rfl
        generalize H9 = H at hP hS ⊢
        refine lv_lload hx hb d_MO_mix_320 (lv_at hl 5 rfl) ?_
        refine lv_bipush (v := 13) hx hb d_MO_mix_322 (by decide) ?_
        have hPc := hP.sub (ws' := []) [] rfl
        have hDc := hD.sub (ws' := []) [] (by decide) rfl
        have hFc := va_free (wc := []) hD hS hA [] rfl
        refine va_calll (va_runS (As := [.long (y5 ((((64 : Int32) - x2) - ((64 : Int32) - x2) / (8 : Int32) * (8 : Int32))).toNatClampNeg), .int (13 : Int32)]) (rest := [.long (f_MO_turned (y5 ((((64 : Int32) - x2) - ((64 : Int32) - x2) / (8 : Int32) * (8 : Int32))).toNatClampNeg) (2 : Int32))]) ⟨hx, hb, hml, hown, hts⟩ (c_MO_turned l dC dI cI cJ _ (y5 ((((64 : Int32) - x2) - ((64 : Int32) - x2) / (8 : Int32) * (8 : Int32))).toNatClampNeg) (13 : Int32)) ⟨callB_of 2 hts (bc_good gw_609) rfl rfl rfl (hts _ gw_6) (hts _ gw_607) (by decide +kernel) ⟨Nat.le_of_ble_eq_true rfl, Nat.le_of_ble_eq_true rfl⟩, (hts _ gw_608)⟩ ⟨bc_blind, fun U hU hW => ⟨rfl, bc_give hPc hDc hK hE hS hFc U hU hW⟩⟩ rfl rfl hl.1 rfl (lv_room (Nat.le_of_ble_eq_true rfl)) d_MO_mix_324 ⟨Nat.le_of_ble_eq_true rfl, Nat.le_of_ble_eq_true rfl⟩) hS (fun q _ h => hFc q h) hFc (fun r u t H9 locs ht hvm hp hB hz1 hk1 hS => ?_)
        subst hp
        obtain ⟨hP, hD⟩ := va_join (wr := [(h, .inr (5, [.int th, .ref af, .ref ak, .ref ar, .ref ag, .int le, .int lo, .int da, .ref ad, .ref ac, .ref ab, .int si, .ref ax, .ref aw, .ref an, .ref av, .ref aa])), (ac, .inl (cJ, 64, .inr (.inl kc))), (ax, .inl (cJ, 48, .inr (.inl tx))), (aw, .inl (cJ, 64, .inr (.inl y3))), (an, .inl (cJ, 8, .inr (.inl y4))), (av, .inl (cJ, 8, .inr (.inl y5)))]) (w1 := []) hP hD [] [0, 1, 2, 3, 4, 5] rfl rfl (by decide) (by decide) hk1 hFc (ht ▸ hB.1) hB.2.2
        have hP := hP.sub (ws' := [(h, .inr (5, [.int th, .ref af, .ref ak, .ref ar, .ref ag, .int le, .int lo, .int da, .ref ad, .ref ac, .ref ab, .int si, .ref ax, .ref aw, .ref an, .ref av, .ref aa])), (ac, .inl (cJ, 64, .inr (.inl kc))), (ax, .inl (cJ, 48, .inr (.inl tx))), (aw, .inl (cJ, 64, .inr (.inl y3))), (an, .inl (cJ, 8, .inr (.inl y4))), (av, .inl (cJ, 8, .inr (.inl y5)))]) [0, 1, 2, 3, 4, 5] rfl
        have hD := hD.sub (ws' := [(h, .inr (5, [.int th, .ref af, .ref ak, .ref ar, .ref ag, .int le, .int lo, .int da, .ref ad, .ref ac, .ref ab, .int si, .ref ax, .ref aw, .ref an, .ref av, .ref aa])), (ac, .inl (cJ, 64, .inr (.inl kc))), (ax, .inl (cJ, 48, .inr (.inl tx))), (aw, .inl (cJ, 64, .inr (.inl y3))), (an, .inl (cJ, 8, .inr (.inl y4))), (av, .inl (cJ, 8, .inr (.inl y5)))]) [0, 1, 2, 3, 4, 5] (by decide) rfl
        generalize H9 = H at hP hS ⊢
        refine lv_lxor hx hb d_MO_mix_327 ?_
        refine lv_lload hx hb d_MO_mix_328 (lv_at hl 5 rfl) ?_
        refine lv_bipush (v := 22) hx hb d_MO_mix_330 (by decide) ?_
        have hPc := hP.sub (ws' := []) [] rfl
        have hDc := hD.sub (ws' := []) [] (by decide) rfl
        have hFc := va_free (wc := []) hD hS hA [] rfl
        refine va_calll (va_runS (As := [.long (y5 ((((64 : Int32) - x2) - ((64 : Int32) - x2) / (8 : Int32) * (8 : Int32))).toNatClampNeg), .int (22 : Int32)]) (rest := [.long ((f_MO_turned (y5 ((((64 : Int32) - x2) - ((64 : Int32) - x2) / (8 : Int32) * (8 : Int32))).toNatClampNeg) (2 : Int32)) ^^^ (f_MO_turned (y5 ((((64 : Int32) - x2) - ((64 : Int32) - x2) / (8 : Int32) * (8 : Int32))).toNatClampNeg) (13 : Int32)))]) ⟨hx, hb, hml, hown, hts⟩ (c_MO_turned l dC dI cI cJ _ (y5 ((((64 : Int32) - x2) - ((64 : Int32) - x2) / (8 : Int32) * (8 : Int32))).toNatClampNeg) (22 : Int32)) ⟨callB_of 2 hts (bc_good gw_609) rfl rfl rfl (hts _ gw_6) (hts _ gw_607) (by decide +kernel) ⟨Nat.le_of_ble_eq_true rfl, Nat.le_of_ble_eq_true rfl⟩, (hts _ gw_608)⟩ ⟨bc_blind, fun U hU hW => ⟨rfl, bc_give hPc hDc hK hE hS hFc U hU hW⟩⟩ rfl rfl hl.1 rfl (lv_room (Nat.le_of_ble_eq_true rfl)) d_MO_mix_332 ⟨Nat.le_of_ble_eq_true rfl, Nat.le_of_ble_eq_true rfl⟩) hS (fun q _ h => hFc q h) hFc (fun r u t H9 locs ht hvm hp hB hz1 hk1 hS => ?_)
        subst hp
        obtain ⟨hP, hD⟩ := va_join (wr := [(h, .inr (5, [.int th, .ref af, .ref ak, .ref ar, .ref ag, .int le, .int lo, .int da, .ref ad, .ref ac, .ref ab, .int si, .ref ax, .ref aw, .ref an, .ref av, .ref aa])), (ac, .inl (cJ, 64, .inr (.inl kc))), (ax, .inl (cJ, 48, .inr (.inl tx))), (aw, .inl (cJ, 64, .inr (.inl y3))), (an, .inl (cJ, 8, .inr (.inl y4))), (av, .inl (cJ, 8, .inr (.inl y5)))]) (w1 := []) hP hD [] [0, 1, 2, 3, 4, 5] rfl rfl (by decide) (by decide) hk1 hFc (ht ▸ hB.1) hB.2.2
        have hP := hP.sub (ws' := [(h, .inr (5, [.int th, .ref af, .ref ak, .ref ar, .ref ag, .int le, .int lo, .int da, .ref ad, .ref ac, .ref ab, .int si, .ref ax, .ref aw, .ref an, .ref av, .ref aa])), (ac, .inl (cJ, 64, .inr (.inl kc))), (ax, .inl (cJ, 48, .inr (.inl tx))), (aw, .inl (cJ, 64, .inr (.inl y3))), (an, .inl (cJ, 8, .inr (.inl y4))), (av, .inl (cJ, 8, .inr (.inl y5)))]) [0, 1, 2, 3, 4, 5] rfl
        have hD := hD.sub (ws' := [(h, .inr (5, [.int th, .ref af, .ref ak, .ref ar, .ref ag, .int le, .int lo, .int da, .ref ad, .ref ac, .ref ab, .int si, .ref ax, .ref aw, .ref an, .ref av, .ref aa])), (ac, .inl (cJ, 64, .inr (.inl kc))), (ax, .inl (cJ, 48, .inr (.inl tx))), (aw, .inl (cJ, 64, .inr (.inl y3))), (an, .inl (cJ, 8, .inr (.inl y4))), (av, .inl (cJ, 8, .inr (.inl y5)))]) [0, 1, 2, 3, 4, 5] (by decide) rfl
        generalize H9 = H at hP hS ⊢
        refine lv_lxor hx hb d_MO_mix_335 ?_
        refine lv_lload hx hb d_MO_mix_336 (lv_at hl 5 rfl) ?_
        refine lv_lload hx hb d_MO_mix_338 (lv_at hl 2 rfl) ?_
        refine lv_land hx hb d_MO_mix_340 ?_
        refine lv_lload hx hb d_MO_mix_341 (lv_at hl 1 rfl) ?_
        refine lv_lload hx hb d_MO_mix_343 (lv_at hl 5 rfl) ?_
        refine lv_lload hx hb d_MO_mix_345 (lv_at hl 2 rfl) ?_
        refine lv_lor hx hb d_MO_mix_347 ?_
        refine lv_land hx hb d_MO_mix_348 ?_
        refine lv_lor hx hb d_MO_mix_349 ?_
        refine lv_ladd hx hb d_MO_mix_350 ?_
        refine lv_lstore (lv' := [(18, .long ((((f_MO_turned (y5 ((((64 : Int32) - x2) - ((64 : Int32) - x2) / (8 : Int32) * (8 : Int32))).toNatClampNeg) (2 : Int32)) ^^^ (f_MO_turned (y5 ((((64 : Int32) - x2) - ((64 : Int32) - x2) / (8 : Int32) * (8 : Int32))).toNatClampNeg) (13 : Int32))) ^^^ (f_MO_turned (y5 ((((64 : Int32) - x2) - ((64 : Int32) - x2) / (8 : Int32) * (8 : Int32))).toNatClampNeg) (22 : Int32))) + (((y5 ((((64 : Int32) - x2) - ((64 : Int32) - x2) / (8 : Int32) * (8 : Int32))).toNatClampNeg) &&& (y5 (((((64 : Int32) - x2) + (1 : Int32)) - (((64 : Int32) - x2) + (1 : Int32)) / (8 : Int32) * (8 : Int32))).toNatClampNeg)) ||| ((y5 (((((64 : Int32) - x2) + (2 : Int32)) - (((64 : Int32) - x2) + (2 : Int32)) / (8 : Int32) * (8 : Int32))).toNatClampNeg) &&& ((y5 ((((64 : Int32) - x2) - ((64 : Int32) - x2) / (8 : Int32) * (8 : Int32))).toNatClampNeg) ||| (y5 (((((64 : Int32) - x2) + (1 : Int32)) - (((64 : Int32) - x2) + (1 : Int32)) / (8 : Int32) * (8 : Int32))).toNatClampNeg)))))), (16, .long (((((y5 (((((64 : Int32) - x2) + (7 : Int32)) - (((64 : Int32) - x2) + (7 : Int32)) / (8 : Int32) * (8 : Int32))).toNatClampNeg) + (((f_MO_turned (y5 (((((64 : Int32) - x2) + (4 : Int32)) - (((64 : Int32) - x2) + (4 : Int32)) / (8 : Int32) * (8 : Int32))).toNatClampNeg) (6 : Int32)) ^^^ (f_MO_turned (y5 (((((64 : Int32) - x2) + (4 : Int32)) - (((64 : Int32) - x2) + (4 : Int32)) / (8 : Int32) * (8 : Int32))).toNatClampNeg) (11 : Int32))) ^^^ (f_MO_turned (y5 (((((64 : Int32) - x2) + (4 : Int32)) - (((64 : Int32) - x2) + (4 : Int32)) / (8 : Int32) * (8 : Int32))).toNatClampNeg) (25 : Int32)))) + ((y5 (((((64 : Int32) - x2) + (6 : Int32)) - (((64 : Int32) - x2) + (6 : Int32)) / (8 : Int32) * (8 : Int32))).toNatClampNeg) ^^^ ((y5 (((((64 : Int32) - x2) + (4 : Int32)) - (((64 : Int32) - x2) + (4 : Int32)) / (8 : Int32) * (8 : Int32))).toNatClampNeg) &&& ((y5 (((((64 : Int32) - x2) + (5 : Int32)) - (((64 : Int32) - x2) + (5 : Int32)) / (8 : Int32) * (8 : Int32))).toNatClampNeg) ^^^ (y5 (((((64 : Int32) - x2) + (6 : Int32)) - (((64 : Int32) - x2) + (6 : Int32)) / (8 : Int32) * (8 : Int32))).toNatClampNeg))))) + (kc (x2).toNatClampNeg)) + (y3 (x2).toNatClampNeg))), (14, .long (y5 (((((64 : Int32) - x2) + (2 : Int32)) - (((64 : Int32) - x2) + (2 : Int32)) / (8 : Int32) * (8 : Int32))).toNatClampNeg)), (12, .long (y5 (((((64 : Int32) - x2) + (1 : Int32)) - (((64 : Int32) - x2) + (1 : Int32)) / (8 : Int32) * (8 : Int32))).toNatClampNeg)), (10, .long (y5 (((((64 : Int32) - x2) + (6 : Int32)) - (((64 : Int32) - x2) + (6 : Int32)) / (8 : Int32) * (8 : Int32))).toNatClampNeg)), (8, .long (y5 (((((64 : Int32) - x2) + (5 : Int32)) - (((64 : Int32) - x2) + (5 : Int32)) / (8 : Int32) * (8 : Int32))).toNatClampNeg)), (6, .long (y5 ((((64 : Int32) - x2) - ((64 : Int32) - x2) / (8 : Int32) * (8 : Int32))).toNatClampNeg)), (4, .long (y5 (((((64 : Int32) - x2) + (4 : Int32)) - (((64 : Int32) - x2) + (4 : Int32)) / (8 : Int32) * (8 : Int32))).toNatClampNeg)), (3, .int ((64 : Int32) - x2)), (0, .ref h), (2, .int x2)]) hx hb d_MO_mix_351 hl (by decide) rfl (fun ls hl => ?_)
        refine lv_aload_n hx hb d_MO_mix_353 rfl (lv_at hl 9 rfl) ?_
        refine va_get (D := (dC, dI)) (ci := 5) (v := .ref av) (C := R_MO) (T := F_MO) (N := 17) hx hb hts in_MO hown hK hP 0 rfl rfl 15 (by decide) (hts _ gw_533) (fun _ h9 => h9) rfl d_MO_mix_354 ?_
        refine lv_iload_n hx hb d_MO_mix_357 rfl (lv_at hl 8 rfl) ?_
        refine lv_iconst (v := 3) hx hb d_MO_mix_358 (by decide) ?_
        refine lv_iadd hx hb d_MO_mix_359 ?_
        refine lv_bipush (v := 8) hx hb d_MO_mix_360 (by decide) ?_
        refine lv_irem hx hb d_MO_mix_362 (by decide) ?_
        refine lv_aload_n hx hb d_MO_mix_363 rfl (lv_at hl 9 rfl) ?_
        refine va_get (D := (dC, dI)) (ci := 5) (v := .ref av) (C := R_MO) (T := F_MO) (N := 17) hx hb hts in_MO hown hK hP 0 rfl rfl 15 (by decide) (hts _ gw_533) (fun _ h9 => h9) rfl d_MO_mix_364 ?_
        refine lv_iload_n hx hb d_MO_mix_367 rfl (lv_at hl 8 rfl) ?_
        refine lv_iconst (v := 3) hx hb d_MO_mix_368 (by decide) ?_
        refine lv_iadd hx hb d_MO_mix_369 ?_
        refine lv_bipush (v := 8) hx hb d_MO_mix_370 (by decide) ?_
        refine lv_irem hx hb d_MO_mix_372 (by decide) ?_
        refine va_lald hx hb hK hP 5 1 rfl rfl (by exact ix_rem8 (p64c 3 hI.1 (by assumption) (by decide))) d_MO_mix_373 ?_
        refine lv_lload hx hb d_MO_mix_374 (lv_at hl 1 rfl) ?_
        refine lv_ladd hx hb d_MO_mix_376 ?_
        refine lv_ldc2 (v := 4294967295) hx hb hown (hts _ gw_579) d_MO_mix_377 ?_
        refine lv_land hx hb d_MO_mix_380 ?_
        refine va_last hx hb hK hP hD hS 5 1 rfl rfl (by exact ix_rem8 (p64c 3 hI.1 (by assumption) (by decide))) d_MO_mix_381 (fun H locs hP hD hS => ?_)
        have hP : va_P (dC, dI) classes [(h, .inr (5, [.int th, .ref af, .ref ak, .ref ar, .ref ag, .int le, .int lo, .int da, .ref ad, .ref ac, .ref ab, .int si, .ref ax, .ref aw, .ref an, .ref av, .ref aa])), (ac, .inl (cJ, 64, .inr (.inl kc))), (ax, .inl (cJ, 48, .inr (.inl tx))), (aw, .inl (cJ, 64, .inr (.inl y3))), (an, .inl (cJ, 8, .inr (.inl y4))), (av, .inl (cJ, 8, .inr (.inl (vp_updL y5 (((((64 : Int32) - x2) + (3 : Int32)) - (((64 : Int32) - x2) + (3 : Int32)) / (8 : Int32) * (8 : Int32))).toNatClampNeg (((y5 (((((64 : Int32) - x2) + (3 : Int32)) - (((64 : Int32) - x2) + (3 : Int32)) / (8 : Int32) * (8 : Int32))).toNatClampNeg) + (((((y5 (((((64 : Int32) - x2) + (7 : Int32)) - (((64 : Int32) - x2) + (7 : Int32)) / (8 : Int32) * (8 : Int32))).toNatClampNeg) + (((f_MO_turned (y5 (((((64 : Int32) - x2) + (4 : Int32)) - (((64 : Int32) - x2) + (4 : Int32)) / (8 : Int32) * (8 : Int32))).toNatClampNeg) (6 : Int32)) ^^^ (f_MO_turned (y5 (((((64 : Int32) - x2) + (4 : Int32)) - (((64 : Int32) - x2) + (4 : Int32)) / (8 : Int32) * (8 : Int32))).toNatClampNeg) (11 : Int32))) ^^^ (f_MO_turned (y5 (((((64 : Int32) - x2) + (4 : Int32)) - (((64 : Int32) - x2) + (4 : Int32)) / (8 : Int32) * (8 : Int32))).toNatClampNeg) (25 : Int32)))) + ((y5 (((((64 : Int32) - x2) + (6 : Int32)) - (((64 : Int32) - x2) + (6 : Int32)) / (8 : Int32) * (8 : Int32))).toNatClampNeg) ^^^ ((y5 (((((64 : Int32) - x2) + (4 : Int32)) - (((64 : Int32) - x2) + (4 : Int32)) / (8 : Int32) * (8 : Int32))).toNatClampNeg) &&& ((y5 (((((64 : Int32) - x2) + (5 : Int32)) - (((64 : Int32) - x2) + (5 : Int32)) / (8 : Int32) * (8 : Int32))).toNatClampNeg) ^^^ (y5 (((((64 : Int32) - x2) + (6 : Int32)) - (((64 : Int32) - x2) + (6 : Int32)) / (8 : Int32) * (8 : Int32))).toNatClampNeg))))) + (kc (x2).toNatClampNeg)) + (y3 (x2).toNatClampNeg))) &&& (4294967295 : Int64))))))] H := hP
        have hD : va_D A [(h, .inr (5, [.int th, .ref af, .ref ak, .ref ar, .ref ag, .int le, .int lo, .int da, .ref ad, .ref ac, .ref ab, .int si, .ref ax, .ref aw, .ref an, .ref av, .ref aa])), (ac, .inl (cJ, 64, .inr (.inl kc))), (ax, .inl (cJ, 48, .inr (.inl tx))), (aw, .inl (cJ, 64, .inr (.inl y3))), (an, .inl (cJ, 8, .inr (.inl y4))), (av, .inl (cJ, 8, .inr (.inl (vp_updL y5 (((((64 : Int32) - x2) + (3 : Int32)) - (((64 : Int32) - x2) + (3 : Int32)) / (8 : Int32) * (8 : Int32))).toNatClampNeg (((y5 (((((64 : Int32) - x2) + (3 : Int32)) - (((64 : Int32) - x2) + (3 : Int32)) / (8 : Int32) * (8 : Int32))).toNatClampNeg) + (((((y5 (((((64 : Int32) - x2) + (7 : Int32)) - (((64 : Int32) - x2) + (7 : Int32)) / (8 : Int32) * (8 : Int32))).toNatClampNeg) + (((f_MO_turned (y5 (((((64 : Int32) - x2) + (4 : Int32)) - (((64 : Int32) - x2) + (4 : Int32)) / (8 : Int32) * (8 : Int32))).toNatClampNeg) (6 : Int32)) ^^^ (f_MO_turned (y5 (((((64 : Int32) - x2) + (4 : Int32)) - (((64 : Int32) - x2) + (4 : Int32)) / (8 : Int32) * (8 : Int32))).toNatClampNeg) (11 : Int32))) ^^^ (f_MO_turned (y5 (((((64 : Int32) - x2) + (4 : Int32)) - (((64 : Int32) - x2) + (4 : Int32)) / (8 : Int32) * (8 : Int32))).toNatClampNeg) (25 : Int32)))) + ((y5 (((((64 : Int32) - x2) + (6 : Int32)) - (((64 : Int32) - x2) + (6 : Int32)) / (8 : Int32) * (8 : Int32))).toNatClampNeg) ^^^ ((y5 (((((64 : Int32) - x2) + (4 : Int32)) - (((64 : Int32) - x2) + (4 : Int32)) / (8 : Int32) * (8 : Int32))).toNatClampNeg) &&& ((y5 (((((64 : Int32) - x2) + (5 : Int32)) - (((64 : Int32) - x2) + (5 : Int32)) / (8 : Int32) * (8 : Int32))).toNatClampNeg) ^^^ (y5 (((((64 : Int32) - x2) + (6 : Int32)) - (((64 : Int32) - x2) + (6 : Int32)) / (8 : Int32) * (8 : Int32))).toNatClampNeg))))) + (kc (x2).toNatClampNeg)) + (y3 (x2).toNatClampNeg))) &&& (4294967295 : Int64))))))] := hD
        refine lv_aload_n hx hb d_MO_mix_382 rfl (lv_at hl 9 rfl) ?_
        refine va_get (D := (dC, dI)) (ci := 5) (v := .ref av) (C := R_MO) (T := F_MO) (N := 17) hx hb hts in_MO hown hK hP 0 rfl rfl 15 (by decide) (hts _ gw_533) (fun _ h9 => h9) rfl d_MO_mix_383 ?_
        refine lv_iload_n hx hb d_MO_mix_386 rfl (lv_at hl 8 rfl) ?_
        refine lv_bipush (v := 7) hx hb d_MO_mix_387 (by decide) ?_
        refine lv_iadd hx hb d_MO_mix_389 ?_
        refine lv_bipush (v := 8) hx hb d_MO_mix_390 (by decide) ?_
        refine lv_irem hx hb d_MO_mix_392 (by decide) ?_
        refine lv_lload hx hb d_MO_mix_393 (lv_at hl 1 rfl) ?_
        refine lv_lload hx hb d_MO_mix_395 (lv_at hl 0 rfl) ?_
        refine lv_ladd hx hb d_MO_mix_397 ?_
        refine lv_ldc2 (v := 4294967295) hx hb hown (hts _ gw_579) d_MO_mix_398 ?_
        refine lv_land hx hb d_MO_mix_401 ?_
        refine va_last hx hb hK hP hD hS 5 1 rfl rfl (by exact ix_rem8 (p64c 7 hI.1 (by assumption) (by decide))) d_MO_mix_402 (fun H locs hP hD hS => ?_)
        have hP : va_P (dC, dI) classes [(h, .inr (5, [.int th, .ref af, .ref ak, .ref ar, .ref ag, .int le, .int lo, .int da, .ref ad, .ref ac, .ref ab, .int si, .ref ax, .ref aw, .ref an, .ref av, .ref aa])), (ac, .inl (cJ, 64, .inr (.inl kc))), (ax, .inl (cJ, 48, .inr (.inl tx))), (aw, .inl (cJ, 64, .inr (.inl y3))), (an, .inl (cJ, 8, .inr (.inl y4))), (av, .inl (cJ, 8, .inr (.inl (vp_updL (vp_updL y5 (((((64 : Int32) - x2) + (3 : Int32)) - (((64 : Int32) - x2) + (3 : Int32)) / (8 : Int32) * (8 : Int32))).toNatClampNeg (((y5 (((((64 : Int32) - x2) + (3 : Int32)) - (((64 : Int32) - x2) + (3 : Int32)) / (8 : Int32) * (8 : Int32))).toNatClampNeg) + (((((y5 (((((64 : Int32) - x2) + (7 : Int32)) - (((64 : Int32) - x2) + (7 : Int32)) / (8 : Int32) * (8 : Int32))).toNatClampNeg) + (((f_MO_turned (y5 (((((64 : Int32) - x2) + (4 : Int32)) - (((64 : Int32) - x2) + (4 : Int32)) / (8 : Int32) * (8 : Int32))).toNatClampNeg) (6 : Int32)) ^^^ (f_MO_turned (y5 (((((64 : Int32) - x2) + (4 : Int32)) - (((64 : Int32) - x2) + (4 : Int32)) / (8 : Int32) * (8 : Int32))).toNatClampNeg) (11 : Int32))) ^^^ (f_MO_turned (y5 (((((64 : Int32) - x2) + (4 : Int32)) - (((64 : Int32) - x2) + (4 : Int32)) / (8 : Int32) * (8 : Int32))).toNatClampNeg) (25 : Int32)))) + ((y5 (((((64 : Int32) - x2) + (6 : Int32)) - (((64 : Int32) - x2) + (6 : Int32)) / (8 : Int32) * (8 : Int32))).toNatClampNeg) ^^^ ((y5 (((((64 : Int32) - x2) + (4 : Int32)) - (((64 : Int32) - x2) + (4 : Int32)) / (8 : Int32) * (8 : Int32))).toNatClampNeg) &&& ((y5 (((((64 : Int32) - x2) + (5 : Int32)) - (((64 : Int32) - x2) + (5 : Int32)) / (8 : Int32) * (8 : Int32))).toNatClampNeg) ^^^ (y5 (((((64 : Int32) - x2) + (6 : Int32)) - (((64 : Int32) - x2) + (6 : Int32)) / (8 : Int32) * (8 : Int32))).toNatClampNeg))))) + (kc (x2).toNatClampNeg)) + (y3 (x2).toNatClampNeg))) &&& (4294967295 : Int64))) (((((64 : Int32) - x2) + (7 : Int32)) - (((64 : Int32) - x2) + (7 : Int32)) / (8 : Int32) * (8 : Int32))).toNatClampNeg (((((((y5 (((((64 : Int32) - x2) + (7 : Int32)) - (((64 : Int32) - x2) + (7 : Int32)) / (8 : Int32) * (8 : Int32))).toNatClampNeg) + (((f_MO_turned (y5 (((((64 : Int32) - x2) + (4 : Int32)) - (((64 : Int32) - x2) + (4 : Int32)) / (8 : Int32) * (8 : Int32))).toNatClampNeg) (6 : Int32)) ^^^ (f_MO_turned (y5 (((((64 : Int32) - x2) + (4 : Int32)) - (((64 : Int32) - x2) + (4 : Int32)) / (8 : Int32) * (8 : Int32))).toNatClampNeg) (11 : Int32))) ^^^ (f_MO_turned (y5 (((((64 : Int32) - x2) + (4 : Int32)) - (((64 : Int32) - x2) + (4 : Int32)) / (8 : Int32) * (8 : Int32))).toNatClampNeg) (25 : Int32)))) + ((y5 (((((64 : Int32) - x2) + (6 : Int32)) - (((64 : Int32) - x2) + (6 : Int32)) / (8 : Int32) * (8 : Int32))).toNatClampNeg) ^^^ ((y5 (((((64 : Int32) - x2) + (4 : Int32)) - (((64 : Int32) - x2) + (4 : Int32)) / (8 : Int32) * (8 : Int32))).toNatClampNeg) &&& ((y5 (((((64 : Int32) - x2) + (5 : Int32)) - (((64 : Int32) - x2) + (5 : Int32)) / (8 : Int32) * (8 : Int32))).toNatClampNeg) ^^^ (y5 (((((64 : Int32) - x2) + (6 : Int32)) - (((64 : Int32) - x2) + (6 : Int32)) / (8 : Int32) * (8 : Int32))).toNatClampNeg))))) + (kc (x2).toNatClampNeg)) + (y3 (x2).toNatClampNeg)) + ((((f_MO_turned (y5 ((((64 : Int32) - x2) - ((64 : Int32) - x2) / (8 : Int32) * (8 : Int32))).toNatClampNeg) (2 : Int32)) ^^^ (f_MO_turned (y5 ((((64 : Int32) - x2) - ((64 : Int32) - x2) / (8 : Int32) * (8 : Int32))).toNatClampNeg) (13 : Int32))) ^^^ (f_MO_turned (y5 ((((64 : Int32) - x2) - ((64 : Int32) - x2) / (8 : Int32) * (8 : Int32))).toNatClampNeg) (22 : Int32))) + (((y5 ((((64 : Int32) - x2) - ((64 : Int32) - x2) / (8 : Int32) * (8 : Int32))).toNatClampNeg) &&& (y5 (((((64 : Int32) - x2) + (1 : Int32)) - (((64 : Int32) - x2) + (1 : Int32)) / (8 : Int32) * (8 : Int32))).toNatClampNeg)) ||| ((y5 (((((64 : Int32) - x2) + (2 : Int32)) - (((64 : Int32) - x2) + (2 : Int32)) / (8 : Int32) * (8 : Int32))).toNatClampNeg) &&& ((y5 ((((64 : Int32) - x2) - ((64 : Int32) - x2) / (8 : Int32) * (8 : Int32))).toNatClampNeg) ||| (y5 (((((64 : Int32) - x2) + (1 : Int32)) - (((64 : Int32) - x2) + (1 : Int32)) / (8 : Int32) * (8 : Int32))).toNatClampNeg)))))) &&& (4294967295 : Int64))))))] H := hP
        have hD : va_D A [(h, .inr (5, [.int th, .ref af, .ref ak, .ref ar, .ref ag, .int le, .int lo, .int da, .ref ad, .ref ac, .ref ab, .int si, .ref ax, .ref aw, .ref an, .ref av, .ref aa])), (ac, .inl (cJ, 64, .inr (.inl kc))), (ax, .inl (cJ, 48, .inr (.inl tx))), (aw, .inl (cJ, 64, .inr (.inl y3))), (an, .inl (cJ, 8, .inr (.inl y4))), (av, .inl (cJ, 8, .inr (.inl (vp_updL (vp_updL y5 (((((64 : Int32) - x2) + (3 : Int32)) - (((64 : Int32) - x2) + (3 : Int32)) / (8 : Int32) * (8 : Int32))).toNatClampNeg (((y5 (((((64 : Int32) - x2) + (3 : Int32)) - (((64 : Int32) - x2) + (3 : Int32)) / (8 : Int32) * (8 : Int32))).toNatClampNeg) + (((((y5 (((((64 : Int32) - x2) + (7 : Int32)) - (((64 : Int32) - x2) + (7 : Int32)) / (8 : Int32) * (8 : Int32))).toNatClampNeg) + (((f_MO_turned (y5 (((((64 : Int32) - x2) + (4 : Int32)) - (((64 : Int32) - x2) + (4 : Int32)) / (8 : Int32) * (8 : Int32))).toNatClampNeg) (6 : Int32)) ^^^ (f_MO_turned (y5 (((((64 : Int32) - x2) + (4 : Int32)) - (((64 : Int32) - x2) + (4 : Int32)) / (8 : Int32) * (8 : Int32))).toNatClampNeg) (11 : Int32))) ^^^ (f_MO_turned (y5 (((((64 : Int32) - x2) + (4 : Int32)) - (((64 : Int32) - x2) + (4 : Int32)) / (8 : Int32) * (8 : Int32))).toNatClampNeg) (25 : Int32)))) + ((y5 (((((64 : Int32) - x2) + (6 : Int32)) - (((64 : Int32) - x2) + (6 : Int32)) / (8 : Int32) * (8 : Int32))).toNatClampNeg) ^^^ ((y5 (((((64 : Int32) - x2) + (4 : Int32)) - (((64 : Int32) - x2) + (4 : Int32)) / (8 : Int32) * (8 : Int32))).toNatClampNeg) &&& ((y5 (((((64 : Int32) - x2) + (5 : Int32)) - (((64 : Int32) - x2) + (5 : Int32)) / (8 : Int32) * (8 : Int32))).toNatClampNeg) ^^^ (y5 (((((64 : Int32) - x2) + (6 : Int32)) - (((64 : Int32) - x2) + (6 : Int32)) / (8 : Int32) * (8 : Int32))).toNatClampNeg))))) + (kc (x2).toNatClampNeg)) + (y3 (x2).toNatClampNeg))) &&& (4294967295 : Int64))) (((((64 : Int32) - x2) + (7 : Int32)) - (((64 : Int32) - x2) + (7 : Int32)) / (8 : Int32) * (8 : Int32))).toNatClampNeg (((((((y5 (((((64 : Int32) - x2) + (7 : Int32)) - (((64 : Int32) - x2) + (7 : Int32)) / (8 : Int32) * (8 : Int32))).toNatClampNeg) + (((f_MO_turned (y5 (((((64 : Int32) - x2) + (4 : Int32)) - (((64 : Int32) - x2) + (4 : Int32)) / (8 : Int32) * (8 : Int32))).toNatClampNeg) (6 : Int32)) ^^^ (f_MO_turned (y5 (((((64 : Int32) - x2) + (4 : Int32)) - (((64 : Int32) - x2) + (4 : Int32)) / (8 : Int32) * (8 : Int32))).toNatClampNeg) (11 : Int32))) ^^^ (f_MO_turned (y5 (((((64 : Int32) - x2) + (4 : Int32)) - (((64 : Int32) - x2) + (4 : Int32)) / (8 : Int32) * (8 : Int32))).toNatClampNeg) (25 : Int32)))) + ((y5 (((((64 : Int32) - x2) + (6 : Int32)) - (((64 : Int32) - x2) + (6 : Int32)) / (8 : Int32) * (8 : Int32))).toNatClampNeg) ^^^ ((y5 (((((64 : Int32) - x2) + (4 : Int32)) - (((64 : Int32) - x2) + (4 : Int32)) / (8 : Int32) * (8 : Int32))).toNatClampNeg) &&& ((y5 (((((64 : Int32) - x2) + (5 : Int32)) - (((64 : Int32) - x2) + (5 : Int32)) / (8 : Int32) * (8 : Int32))).toNatClampNeg) ^^^ (y5 (((((64 : Int32) - x2) + (6 : Int32)) - (((64 : Int32) - x2) + (6 : Int32)) / (8 : Int32) * (8 : Int32))).toNatClampNeg))))) + (kc (x2).toNatClampNeg)) + (y3 (x2).toNatClampNeg)) + ((((f_MO_turned (y5 ((((64 : Int32) - x2) - ((64 : Int32) - x2) / (8 : Int32) * (8 : Int32))).toNatClampNeg) (2 : Int32)) ^^^ (f_MO_turned (y5 ((((64 : Int32) - x2) - ((64 : Int32) - x2) / (8 : Int32) * (8 : Int32))).toNatClampNeg) (13 : Int32))) ^^^ (f_MO_turned (y5 ((((64 : Int32) - x2) - ((64 : Int32) - x2) / (8 : Int32) * (8 : Int32))).toNatClampNeg) (22 : Int32))) + (((y5 ((((64 : Int32) - x2) - ((64 : Int32) - x2) / (8 : Int32) * (8 : Int32))).toNatClampNeg) &&& (y5 (((((64 : Int32) - x2) + (1 : Int32)) - (((64 : Int32) - x2) + (1 : Int32)) / (8 : Int32) * (8 : Int32))).toNatClampNeg)) ||| ((y5 (((((64 : Int32) - x2) + (2 : Int32)) - (((64 : Int32) - x2) + (2 : Int32)) / (8 : Int32) * (8 : Int32))).toNatClampNeg) &&& ((y5 ((((64 : Int32) - x2) - ((64 : Int32) - x2) / (8 : Int32) * (8 : Int32))).toNatClampNeg) ||| (y5 (((((64 : Int32) - x2) + (1 : Int32)) - (((64 : Int32) - x2) + (1 : Int32)) / (8 : Int32) * (8 : Int32))).toNatClampNeg)))))) &&& (4294967295 : Int64))))))] := hD
        refine lv_iinc (k := 10) (v := (x2 + (1 : Int32))) (lv' := [(2, .int (x2 + (1 : Int32))), (18, .long ((((f_MO_turned (y5 ((((64 : Int32) - x2) - ((64 : Int32) - x2) / (8 : Int32) * (8 : Int32))).toNatClampNeg) (2 : Int32)) ^^^ (f_MO_turned (y5 ((((64 : Int32) - x2) - ((64 : Int32) - x2) / (8 : Int32) * (8 : Int32))).toNatClampNeg) (13 : Int32))) ^^^ (f_MO_turned (y5 ((((64 : Int32) - x2) - ((64 : Int32) - x2) / (8 : Int32) * (8 : Int32))).toNatClampNeg) (22 : Int32))) + (((y5 ((((64 : Int32) - x2) - ((64 : Int32) - x2) / (8 : Int32) * (8 : Int32))).toNatClampNeg) &&& (y5 (((((64 : Int32) - x2) + (1 : Int32)) - (((64 : Int32) - x2) + (1 : Int32)) / (8 : Int32) * (8 : Int32))).toNatClampNeg)) ||| ((y5 (((((64 : Int32) - x2) + (2 : Int32)) - (((64 : Int32) - x2) + (2 : Int32)) / (8 : Int32) * (8 : Int32))).toNatClampNeg) &&& ((y5 ((((64 : Int32) - x2) - ((64 : Int32) - x2) / (8 : Int32) * (8 : Int32))).toNatClampNeg) ||| (y5 (((((64 : Int32) - x2) + (1 : Int32)) - (((64 : Int32) - x2) + (1 : Int32)) / (8 : Int32) * (8 : Int32))).toNatClampNeg)))))), (16, .long (((((y5 (((((64 : Int32) - x2) + (7 : Int32)) - (((64 : Int32) - x2) + (7 : Int32)) / (8 : Int32) * (8 : Int32))).toNatClampNeg) + (((f_MO_turned (y5 (((((64 : Int32) - x2) + (4 : Int32)) - (((64 : Int32) - x2) + (4 : Int32)) / (8 : Int32) * (8 : Int32))).toNatClampNeg) (6 : Int32)) ^^^ (f_MO_turned (y5 (((((64 : Int32) - x2) + (4 : Int32)) - (((64 : Int32) - x2) + (4 : Int32)) / (8 : Int32) * (8 : Int32))).toNatClampNeg) (11 : Int32))) ^^^ (f_MO_turned (y5 (((((64 : Int32) - x2) + (4 : Int32)) - (((64 : Int32) - x2) + (4 : Int32)) / (8 : Int32) * (8 : Int32))).toNatClampNeg) (25 : Int32)))) + ((y5 (((((64 : Int32) - x2) + (6 : Int32)) - (((64 : Int32) - x2) + (6 : Int32)) / (8 : Int32) * (8 : Int32))).toNatClampNeg) ^^^ ((y5 (((((64 : Int32) - x2) + (4 : Int32)) - (((64 : Int32) - x2) + (4 : Int32)) / (8 : Int32) * (8 : Int32))).toNatClampNeg) &&& ((y5 (((((64 : Int32) - x2) + (5 : Int32)) - (((64 : Int32) - x2) + (5 : Int32)) / (8 : Int32) * (8 : Int32))).toNatClampNeg) ^^^ (y5 (((((64 : Int32) - x2) + (6 : Int32)) - (((64 : Int32) - x2) + (6 : Int32)) / (8 : Int32) * (8 : Int32))).toNatClampNeg))))) + (kc (x2).toNatClampNeg)) + (y3 (x2).toNatClampNeg))), (14, .long (y5 (((((64 : Int32) - x2) + (2 : Int32)) - (((64 : Int32) - x2) + (2 : Int32)) / (8 : Int32) * (8 : Int32))).toNatClampNeg)), (12, .long (y5 (((((64 : Int32) - x2) + (1 : Int32)) - (((64 : Int32) - x2) + (1 : Int32)) / (8 : Int32) * (8 : Int32))).toNatClampNeg)), (10, .long (y5 (((((64 : Int32) - x2) + (6 : Int32)) - (((64 : Int32) - x2) + (6 : Int32)) / (8 : Int32) * (8 : Int32))).toNatClampNeg)), (8, .long (y5 (((((64 : Int32) - x2) + (5 : Int32)) - (((64 : Int32) - x2) + (5 : Int32)) / (8 : Int32) * (8 : Int32))).toNatClampNeg)), (6, .long (y5 ((((64 : Int32) - x2) - ((64 : Int32) - x2) / (8 : Int32) * (8 : Int32))).toNatClampNeg)), (4, .long (y5 (((((64 : Int32) - x2) + (4 : Int32)) - (((64 : Int32) - x2) + (4 : Int32)) / (8 : Int32) * (8 : Int32))).toNatClampNeg)), (3, .int ((64 : Int32) - x2)), (0, .ref h)]) hx hb d_MO_mix_403 hl rfl rfl (by decide) rfl (fun ls hl => ?_)
        refine lv_goto (tgt := 162) hx hb d_MO_mix_406 (by decide) ?_
        have e0 : (f_MO_mix_162 fr th le lo da si kc tx wi nw vv (n + 1) x2 y3 y4 y5) = f_MO_mix_162 fr th le lo da si kc tx wi nw vv n (x2 + (1 : Int32)) y3 y4 (vp_updL (vp_updL y5 (((((64 : Int32) - x2) + (3 : Int32)) - (((64 : Int32) - x2) + (3 : Int32)) / (8 : Int32) * (8 : Int32))).toNatClampNeg (((y5 (((((64 : Int32) - x2) + (3 : Int32)) - (((64 : Int32) - x2) + (3 : Int32)) / (8 : Int32) * (8 : Int32))).toNatClampNeg) + (((((y5 (((((64 : Int32) - x2) + (7 : Int32)) - (((64 : Int32) - x2) + (7 : Int32)) / (8 : Int32) * (8 : Int32))).toNatClampNeg) + (((f_MO_turned (y5 (((((64 : Int32) - x2) + (4 : Int32)) - (((64 : Int32) - x2) + (4 : Int32)) / (8 : Int32) * (8 : Int32))).toNatClampNeg) (6 : Int32)) ^^^ (f_MO_turned (y5 (((((64 : Int32) - x2) + (4 : Int32)) - (((64 : Int32) - x2) + (4 : Int32)) / (8 : Int32) * (8 : Int32))).toNatClampNeg) (11 : Int32))) ^^^ (f_MO_turned (y5 (((((64 : Int32) - x2) + (4 : Int32)) - (((64 : Int32) - x2) + (4 : Int32)) / (8 : Int32) * (8 : Int32))).toNatClampNeg) (25 : Int32)))) + ((y5 (((((64 : Int32) - x2) + (6 : Int32)) - (((64 : Int32) - x2) + (6 : Int32)) / (8 : Int32) * (8 : Int32))).toNatClampNeg) ^^^ ((y5 (((((64 : Int32) - x2) + (4 : Int32)) - (((64 : Int32) - x2) + (4 : Int32)) / (8 : Int32) * (8 : Int32))).toNatClampNeg) &&& ((y5 (((((64 : Int32) - x2) + (5 : Int32)) - (((64 : Int32) - x2) + (5 : Int32)) / (8 : Int32) * (8 : Int32))).toNatClampNeg) ^^^ (y5 (((((64 : Int32) - x2) + (6 : Int32)) - (((64 : Int32) - x2) + (6 : Int32)) / (8 : Int32) * (8 : Int32))).toNatClampNeg))))) + (kc (x2).toNatClampNeg)) + (y3 (x2).toNatClampNeg))) &&& (4294967295 : Int64))) (((((64 : Int32) - x2) + (7 : Int32)) - (((64 : Int32) - x2) + (7 : Int32)) / (8 : Int32) * (8 : Int32))).toNatClampNeg (((((((y5 (((((64 : Int32) - x2) + (7 : Int32)) - (((64 : Int32) - x2) + (7 : Int32)) / (8 : Int32) * (8 : Int32))).toNatClampNeg) + (((f_MO_turned (y5 (((((64 : Int32) - x2) + (4 : Int32)) - (((64 : Int32) - x2) + (4 : Int32)) / (8 : Int32) * (8 : Int32))).toNatClampNeg) (6 : Int32)) ^^^ (f_MO_turned (y5 (((((64 : Int32) - x2) + (4 : Int32)) - (((64 : Int32) - x2) + (4 : Int32)) / (8 : Int32) * (8 : Int32))).toNatClampNeg) (11 : Int32))) ^^^ (f_MO_turned (y5 (((((64 : Int32) - x2) + (4 : Int32)) - (((64 : Int32) - x2) + (4 : Int32)) / (8 : Int32) * (8 : Int32))).toNatClampNeg) (25 : Int32)))) + ((y5 (((((64 : Int32) - x2) + (6 : Int32)) - (((64 : Int32) - x2) + (6 : Int32)) / (8 : Int32) * (8 : Int32))).toNatClampNeg) ^^^ ((y5 (((((64 : Int32) - x2) + (4 : Int32)) - (((64 : Int32) - x2) + (4 : Int32)) / (8 : Int32) * (8 : Int32))).toNatClampNeg) &&& ((y5 (((((64 : Int32) - x2) + (5 : Int32)) - (((64 : Int32) - x2) + (5 : Int32)) / (8 : Int32) * (8 : Int32))).toNatClampNeg) ^^^ (y5 (((((64 : Int32) - x2) + (6 : Int32)) - (((64 : Int32) - x2) + (6 : Int32)) / (8 : Int32) * (8 : Int32))).toNatClampNeg))))) + (kc (x2).toNatClampNeg)) + (y3 (x2).toNatClampNeg)) + ((((f_MO_turned (y5 ((((64 : Int32) - x2) - ((64 : Int32) - x2) / (8 : Int32) * (8 : Int32))).toNatClampNeg) (2 : Int32)) ^^^ (f_MO_turned (y5 ((((64 : Int32) - x2) - ((64 : Int32) - x2) / (8 : Int32) * (8 : Int32))).toNatClampNeg) (13 : Int32))) ^^^ (f_MO_turned (y5 ((((64 : Int32) - x2) - ((64 : Int32) - x2) / (8 : Int32) * (8 : Int32))).toNatClampNeg) (22 : Int32))) + (((y5 ((((64 : Int32) - x2) - ((64 : Int32) - x2) / (8 : Int32) * (8 : Int32))).toNatClampNeg) &&& (y5 (((((64 : Int32) - x2) + (1 : Int32)) - (((64 : Int32) - x2) + (1 : Int32)) / (8 : Int32) * (8 : Int32))).toNatClampNeg)) ||| ((y5 (((((64 : Int32) - x2) + (2 : Int32)) - (((64 : Int32) - x2) + (2 : Int32)) / (8 : Int32) * (8 : Int32))).toNatClampNeg) &&& ((y5 ((((64 : Int32) - x2) - ((64 : Int32) - x2) / (8 : Int32) * (8 : Int32))).toNatClampNeg) ||| (y5 (((((64 : Int32) - x2) + (1 : Int32)) - (((64 : Int32) - x2) + (1 : Int32)) / (8 : Int32) * (8 : Int32))).toNatClampNeg)))))) &&& (4294967295 : Int64))) := by rw [f_MO_mix_162, if_neg h9]
        rw [e0]
        exact ih (x2 + (1 : Int32)) y3 y4 (vp_updL (vp_updL y5 (((((64 : Int32) - x2) + (3 : Int32)) - (((64 : Int32) - x2) + (3 : Int32)) / (8 : Int32) * (8 : Int32))).toNatClampNeg (((y5 (((((64 : Int32) - x2) + (3 : Int32)) - (((64 : Int32) - x2) + (3 : Int32)) / (8 : Int32) * (8 : Int32))).toNatClampNeg) + (((((y5 (((((64 : Int32) - x2) + (7 : Int32)) - (((64 : Int32) - x2) + (7 : Int32)) / (8 : Int32) * (8 : Int32))).toNatClampNeg) + (((f_MO_turned (y5 (((((64 : Int32) - x2) + (4 : Int32)) - (((64 : Int32) - x2) + (4 : Int32)) / (8 : Int32) * (8 : Int32))).toNatClampNeg) (6 : Int32)) ^^^ (f_MO_turned (y5 (((((64 : Int32) - x2) + (4 : Int32)) - (((64 : Int32) - x2) + (4 : Int32)) / (8 : Int32) * (8 : Int32))).toNatClampNeg) (11 : Int32))) ^^^ (f_MO_turned (y5 (((((64 : Int32) - x2) + (4 : Int32)) - (((64 : Int32) - x2) + (4 : Int32)) / (8 : Int32) * (8 : Int32))).toNatClampNeg) (25 : Int32)))) + ((y5 (((((64 : Int32) - x2) + (6 : Int32)) - (((64 : Int32) - x2) + (6 : Int32)) / (8 : Int32) * (8 : Int32))).toNatClampNeg) ^^^ ((y5 (((((64 : Int32) - x2) + (4 : Int32)) - (((64 : Int32) - x2) + (4 : Int32)) / (8 : Int32) * (8 : Int32))).toNatClampNeg) &&& ((y5 (((((64 : Int32) - x2) + (5 : Int32)) - (((64 : Int32) - x2) + (5 : Int32)) / (8 : Int32) * (8 : Int32))).toNatClampNeg) ^^^ (y5 (((((64 : Int32) - x2) + (6 : Int32)) - (((64 : Int32) - x2) + (6 : Int32)) / (8 : Int32) * (8 : Int32))).toNatClampNeg))))) + (kc (x2).toNatClampNeg)) + (y3 (x2).toNatClampNeg))) &&& (4294967295 : Int64))) (((((64 : Int32) - x2) + (7 : Int32)) - (((64 : Int32) - x2) + (7 : Int32)) / (8 : Int32) * (8 : Int32))).toNatClampNeg (((((((y5 (((((64 : Int32) - x2) + (7 : Int32)) - (((64 : Int32) - x2) + (7 : Int32)) / (8 : Int32) * (8 : Int32))).toNatClampNeg) + (((f_MO_turned (y5 (((((64 : Int32) - x2) + (4 : Int32)) - (((64 : Int32) - x2) + (4 : Int32)) / (8 : Int32) * (8 : Int32))).toNatClampNeg) (6 : Int32)) ^^^ (f_MO_turned (y5 (((((64 : Int32) - x2) + (4 : Int32)) - (((64 : Int32) - x2) + (4 : Int32)) / (8 : Int32) * (8 : Int32))).toNatClampNeg) (11 : Int32))) ^^^ (f_MO_turned (y5 (((((64 : Int32) - x2) + (4 : Int32)) - (((64 : Int32) - x2) + (4 : Int32)) / (8 : Int32) * (8 : Int32))).toNatClampNeg) (25 : Int32)))) + ((y5 (((((64 : Int32) - x2) + (6 : Int32)) - (((64 : Int32) - x2) + (6 : Int32)) / (8 : Int32) * (8 : Int32))).toNatClampNeg) ^^^ ((y5 (((((64 : Int32) - x2) + (4 : Int32)) - (((64 : Int32) - x2) + (4 : Int32)) / (8 : Int32) * (8 : Int32))).toNatClampNeg) &&& ((y5 (((((64 : Int32) - x2) + (5 : Int32)) - (((64 : Int32) - x2) + (5 : Int32)) / (8 : Int32) * (8 : Int32))).toNatClampNeg) ^^^ (y5 (((((64 : Int32) - x2) + (6 : Int32)) - (((64 : Int32) - x2) + (6 : Int32)) / (8 : Int32) * (8 : Int32))).toNatClampNeg))))) + (kc (x2).toNatClampNeg)) + (y3 (x2).toNatClampNeg)) + ((((f_MO_turned (y5 ((((64 : Int32) - x2) - ((64 : Int32) - x2) / (8 : Int32) * (8 : Int32))).toNatClampNeg) (2 : Int32)) ^^^ (f_MO_turned (y5 ((((64 : Int32) - x2) - ((64 : Int32) - x2) / (8 : Int32) * (8 : Int32))).toNatClampNeg) (13 : Int32))) ^^^ (f_MO_turned (y5 ((((64 : Int32) - x2) - ((64 : Int32) - x2) / (8 : Int32) * (8 : Int32))).toNatClampNeg) (22 : Int32))) + (((y5 ((((64 : Int32) - x2) - ((64 : Int32) - x2) / (8 : Int32) * (8 : Int32))).toNatClampNeg) &&& (y5 (((((64 : Int32) - x2) + (1 : Int32)) - (((64 : Int32) - x2) + (1 : Int32)) / (8 : Int32) * (8 : Int32))).toNatClampNeg)) ||| ((y5 (((((64 : Int32) - x2) + (2 : Int32)) - (((64 : Int32) - x2) + (2 : Int32)) / (8 : Int32) * (8 : Int32))).toNatClampNeg) &&& ((y5 ((((64 : Int32) - x2) - ((64 : Int32) - x2) / (8 : Int32) * (8 : Int32))).toNatClampNeg) ||| (y5 (((((64 : Int32) - x2) + (1 : Int32)) - (((64 : Int32) - x2) + (1 : Int32)) / (8 : Int32) * (8 : Int32))).toNatClampNeg)))))) &&& (4294967295 : Int64))) _ _ ls (lp_up hI.1 (by assumption)).1 (lp_ms hI.1 (by assumption) hm) (lv_sub hl [10, 0] rfl) hP hD hS
  have lp_136 : ∀ (n : Nat) (x2 : Int32) (y3 : Nat → Int64) (y4 : Nat → Int64) (y5 : Nat → Int64) (H : Heap) (locs : List Loc) (ls : Array Slot), 0 ≤ x2 ∧ x2 ≤ 8 → ((8 : Int32).toInt - x2.toInt).toNat < n → lv_has ls 20 [(0, .ref h), (2, .int x2)] → va_P (dC, dI) classes [(h, .inr (5, [.int th, .ref af, .ref ak, .ref ar, .ref ag, .int le, .int lo, .int da, .ref ad, .ref ac, .ref ab, .int si, .ref ax, .ref aw, .ref an, .ref av, .ref aa])), (ac, .inl (cJ, 64, .inr (.inl kc))), (ax, .inl (cJ, 48, .inr (.inl tx))), (aw, .inl (cJ, 64, .inr (.inl y3))), (an, .inl (cJ, 8, .inr (.inl y4))), (av, .inl (cJ, 8, .inr (.inl y5)))] H → va_D A [(h, .inr (5, [.int th, .ref af, .ref ak, .ref ar, .ref ag, .int le, .int lo, .int da, .ref ad, .ref ac, .ref ab, .int si, .ref ax, .ref aw, .ref an, .ref av, .ref aa])), (ac, .inl (cJ, 64, .inr (.inl kc))), (ax, .inl (cJ, 48, .inr (.inl tx))), (aw, .inl (cJ, 64, .inr (.inl y3))), (an, .inl (cJ, 8, .inr (.inl y4))), (av, .inl (cJ, 8, .inr (.inl y5)))] → va_S A s.heap H locs → W p l e (headSpec ws_MO_mix ({ frames := 1, cells := 0, slots := 0, locals := 22 } : Room)).room s m ([.ref h, .int fr] : List Value).toArray below meth c H locs 0 0 (MQ below (va_Qv (fun (_ : Unit) => True) (fun _ => bc_post (dC, dI) cI cJ A [(h, .inr (5, [.int th, .ref af, .ref ak, .ref ar, .ref ag, .int le, .int lo, .int da, .ref ad, .ref ac, .ref ab, .int si, .ref ax, .ref aw, .ref an, .ref av, .ref aa])), (ac, .inl (cJ, 64, .inr (.inl kc))), (ax, .inl (cJ, 48, .inr (.inl tx))), (aw, .inl (cJ, 64, .inr (.inl (f_MO_mix_136 fr th le lo da si kc tx wi nw vv n x2 y3 y4 y5).1))), (an, .inl (cJ, 8, .inr (.inl (f_MO_mix_136 fr th le lo da si kc tx wi nw vv n x2 y3 y4 y5).2.1))), (av, .inl (cJ, 8, .inr (.inl (f_MO_mix_136 fr th le lo da si kc tx wi nw vv n x2 y3 y4 y5).2.2)))]) A) ([.ref h, .int fr] : List Value).toArray s 0 0 A) (F0 m 136 ls []) := by
    intro n
    induction n with
    | zero => intro x2 y3 y4 y5 H locs ls hI hm; exact absurd hm (Nat.not_lt_zero _)
    | succ n ih =>
      intro x2 y3 y4 y5 H locs ls hI hm hl hP hD hS
      refine lv_iload_n hx hb d_MO_mix_136 rfl (lv_at hl 1 rfl) ?_
      refine lv_bipush (v := 8) hx hb d_MO_mix_137 (by decide) ?_
      refine lv_icmp_ge (tgt := 160) hx hb d_MO_mix_139 (by decide) (fun h8 => ?_) (fun h8 => ?_)
      · refine lv_iconst (v := 0) hx hb d_MO_mix_160 (by decide) ?_
        refine lv_istore_n (lv' := [(2, .int (0 : Int32)), (0, .ref h)]) hx hb d_MO_mix_161 rfl hl (by decide) rfl (fun ls hl => ?_)
        have e0 : (f_MO_mix_136 fr th le lo da si kc tx wi nw vv (n + 1) x2 y3 y4 y5) = f_MO_mix_162 fr th le lo da si kc tx wi nw vv 65 (0 : Int32) y3 y4 y5 := by rw [f_MO_mix_136, if_pos h8]
        rw [e0]
        exact lp_162 65 (0 : Int32) y3 y4 y5 _ _ ls ⟨by decide, by decide⟩ (by decide) (lv_sub hl [1, 0] rfl) hP hD hS
      · refine lv_aload_n hx hb d_MO_mix_142 rfl (lv_at hl 0 rfl) ?_
        refine va_get (D := (dC, dI)) (ci := 5) (v := .ref av) (C := R_MO) (T := F_MO) (N := 17) hx hb hts in_MO hown hK hP 0 rfl rfl 15 (by decide) (hts _ gw_533) (fun _ h9 => h9) rfl d_MO_mix_143 ?_
        refine lv_iload_n hx hb d_MO_mix_146 rfl (lv_at hl 1 rfl) ?_
        refine lv_aload_n hx hb d_MO_mix_147 rfl (lv_at hl 0 rfl) ?_
        refine va_get (D := (dC, dI)) (ci := 5) (v := .ref an) (C := R_MO) (T := F_MO) (N := 17) hx hb hts in_MO hown hK hP 0 rfl rfl 14 (by decide) (hts _ gw_532) (fun _ h9 => h9) rfl d_MO_mix_148 ?_
        refine lv_iload_n hx hb d_MO_mix_151 rfl (lv_at hl 1 rfl) ?_
        refine va_lald hx hb hK hP 4 1 rfl rfl (by exact ix_sub 8 8 hI.1 (by assumption) rfl (by decide) (by decide)) d_MO_mix_152 ?_
        refine va_last hx hb hK hP hD hS 5 1 rfl rfl (by exact ix_sub 8 8 hI.1 (by assumption) rfl (by decide) (by decide)) d_MO_mix_153 (fun H locs hP hD hS => ?_)
        have hP : va_P (dC, dI) classes [(h, .inr (5, [.int th, .ref af, .ref ak, .ref ar, .ref ag, .int le, .int lo, .int da, .ref ad, .ref ac, .ref ab, .int si, .ref ax, .ref aw, .ref an, .ref av, .ref aa])), (ac, .inl (cJ, 64, .inr (.inl kc))), (ax, .inl (cJ, 48, .inr (.inl tx))), (aw, .inl (cJ, 64, .inr (.inl y3))), (an, .inl (cJ, 8, .inr (.inl y4))), (av, .inl (cJ, 8, .inr (.inl (vp_updL y5 (x2).toNatClampNeg (y4 (x2).toNatClampNeg)))))] H := hP
        have hD : va_D A [(h, .inr (5, [.int th, .ref af, .ref ak, .ref ar, .ref ag, .int le, .int lo, .int da, .ref ad, .ref ac, .ref ab, .int si, .ref ax, .ref aw, .ref an, .ref av, .ref aa])), (ac, .inl (cJ, 64, .inr (.inl kc))), (ax, .inl (cJ, 48, .inr (.inl tx))), (aw, .inl (cJ, 64, .inr (.inl y3))), (an, .inl (cJ, 8, .inr (.inl y4))), (av, .inl (cJ, 8, .inr (.inl (vp_updL y5 (x2).toNatClampNeg (y4 (x2).toNatClampNeg)))))] := hD
        refine lv_iinc (k := 1) (v := (x2 + (1 : Int32))) (lv' := [(2, .int (x2 + (1 : Int32))), (0, .ref h)]) hx hb d_MO_mix_154 hl rfl rfl (by decide) rfl (fun ls hl => ?_)
        refine lv_goto (tgt := 136) hx hb d_MO_mix_157 (by decide) ?_
        have e0 : (f_MO_mix_136 fr th le lo da si kc tx wi nw vv (n + 1) x2 y3 y4 y5) = f_MO_mix_136 fr th le lo da si kc tx wi nw vv n (x2 + (1 : Int32)) y3 y4 (vp_updL y5 (x2).toNatClampNeg (y4 (x2).toNatClampNeg)) := by rw [f_MO_mix_136, if_neg h8]
        rw [e0]
        exact ih (x2 + (1 : Int32)) y3 y4 (vp_updL y5 (x2).toNatClampNeg (y4 (x2).toNatClampNeg)) _ _ ls (lp_up hI.1 (by assumption)).1 (lp_ms hI.1 (by assumption) hm) (lv_sub hl [1, 0] rfl) hP hD hS
  have lp_2 : ∀ (n : Nat) (x2 : Int32) (y3 : Nat → Int64) (y4 : Nat → Int64) (y5 : Nat → Int64) (H : Heap) (locs : List Loc) (ls : Array Slot), 0 ≤ x2 ∧ x2 ≤ 64 → ((64 : Int32).toInt - x2.toInt).toNat < n → lv_has ls 20 [(0, .ref h), (1, .int fr), (2, .int x2)] → va_P (dC, dI) classes [(h, .inr (5, [.int th, .ref af, .ref ak, .ref ar, .ref ag, .int le, .int lo, .int da, .ref ad, .ref ac, .ref ab, .int si, .ref ax, .ref aw, .ref an, .ref av, .ref aa])), (ac, .inl (cJ, 64, .inr (.inl kc))), (ax, .inl (cJ, 48, .inr (.inl tx))), (aw, .inl (cJ, 64, .inr (.inl y3))), (an, .inl (cJ, 8, .inr (.inl y4))), (av, .inl (cJ, 8, .inr (.inl y5)))] H → va_D A [(h, .inr (5, [.int th, .ref af, .ref ak, .ref ar, .ref ag, .int le, .int lo, .int da, .ref ad, .ref ac, .ref ab, .int si, .ref ax, .ref aw, .ref an, .ref av, .ref aa])), (ac, .inl (cJ, 64, .inr (.inl kc))), (ax, .inl (cJ, 48, .inr (.inl tx))), (aw, .inl (cJ, 64, .inr (.inl y3))), (an, .inl (cJ, 8, .inr (.inl y4))), (av, .inl (cJ, 8, .inr (.inl y5)))] → va_S A s.heap H locs → W p l e (headSpec ws_MO_mix ({ frames := 1, cells := 0, slots := 0, locals := 22 } : Room)).room s m ([.ref h, .int fr] : List Value).toArray below meth c H locs 0 0 (MQ below (va_Qv (fun (_ : Unit) => True) (fun _ => bc_post (dC, dI) cI cJ A [(h, .inr (5, [.int th, .ref af, .ref ak, .ref ar, .ref ag, .int le, .int lo, .int da, .ref ad, .ref ac, .ref ab, .int si, .ref ax, .ref aw, .ref an, .ref av, .ref aa])), (ac, .inl (cJ, 64, .inr (.inl kc))), (ax, .inl (cJ, 48, .inr (.inl tx))), (aw, .inl (cJ, 64, .inr (.inl (f_MO_mix_2 fr th le lo da si kc tx wi nw vv n x2 y3 y4 y5).1))), (an, .inl (cJ, 8, .inr (.inl (f_MO_mix_2 fr th le lo da si kc tx wi nw vv n x2 y3 y4 y5).2.1))), (av, .inl (cJ, 8, .inr (.inl (f_MO_mix_2 fr th le lo da si kc tx wi nw vv n x2 y3 y4 y5).2.2)))]) A) ([.ref h, .int fr] : List Value).toArray s 0 0 A) (F0 m 2 ls []) := by
    intro n
    induction n with
    | zero => intro x2 y3 y4 y5 H locs ls hI hm; exact absurd hm (Nat.not_lt_zero _)
    | succ n ih =>
      intro x2 y3 y4 y5 H locs ls hI hm hl hP hD hS
      refine lv_iload_n hx hb d_MO_mix_2 rfl (lv_at hl 2 rfl) ?_
      refine lv_bipush (v := 64) hx hb d_MO_mix_3 (by decide) ?_
      refine lv_icmp_ge (tgt := 134) hx hb d_MO_mix_5 (by decide) (fun h6 => ?_) (fun h6 => ?_)
      · refine lv_iconst (v := 0) hx hb d_MO_mix_134 (by decide) ?_
        refine lv_istore_n (lv' := [(2, .int (0 : Int32)), (0, .ref h), (1, .int fr)]) hx hb d_MO_mix_135 rfl hl (by decide) rfl (fun ls hl => ?_)
        have e0 : (f_MO_mix_2 fr th le lo da si kc tx wi nw vv (n + 1) x2 y3 y4 y5) = f_MO_mix_136 fr th le lo da si kc tx wi nw vv 9 (0 : Int32) y3 y4 y5 := by rw [f_MO_mix_2, if_pos h6]
        rw [e0]
        exact lp_136 9 (0 : Int32) y3 y4 y5 _ _ ls ⟨by decide, by decide⟩ (by decide) (lv_sub hl [1, 0] rfl) hP hD hS
      · refine lv_iload_n hx hb d_MO_mix_8 rfl (lv_at hl 2 rfl) ?_
        refine lv_bipush (v := 16) hx hb d_MO_mix_9 (by decide) ?_
        refine lv_icmp_ge (tgt := 31) hx hb d_MO_mix_11 (by decide) (fun h7 => ?_) (fun h7 => ?_)
        · refine lv_aload_n hx hb d_MO_mix_31 rfl (lv_at hl 0 rfl) ?_
          refine va_get (D := (dC, dI)) (ci := 5) (v := .ref aw) (C := R_MO) (T := F_MO) (N := 17) hx hb hts in_MO hown hK hP 0 rfl rfl 13 (by decide) (hts _ gw_531) (fun _ h9 => h9) rfl d_MO_mix_32 ?_
          refine lv_iload_n hx hb d_MO_mix_35 rfl (lv_at hl 2 rfl) ?_
          refine lv_bipush (v := 15) hx hb d_MO_mix_36 (by decide) ?_
          refine lv_isub hx hb d_MO_mix_38 ?_
          refine va_lald hx hb hK hP 3 1 rfl rfl (by exact ix_min 15 64 (by assumption) (by assumption) (by decide)) d_MO_mix_39 ?_
          refine lv_lstore_n (lv' := [(3, .long (y3 ((x2 - (15 : Int32))).toNatClampNeg)), (0, .ref h), (1, .int fr), (2, .int x2)]) hx hb d_MO_mix_40 rfl hl (by decide) rfl (fun ls hl => ?_)
          refine lv_aload_n hx hb d_MO_mix_41 rfl (lv_at hl 1 rfl) ?_
          refine va_get (D := (dC, dI)) (ci := 5) (v := .ref aw) (C := R_MO) (T := F_MO) (N := 17) hx hb hts in_MO hown hK hP 0 rfl rfl 13 (by decide) (hts _ gw_531) (fun _ h9 => h9) rfl d_MO_mix_42 ?_
          refine lv_iload_n hx hb d_MO_mix_45 rfl (lv_at hl 3 rfl) ?_
          refine lv_iconst (v := 2) hx hb d_MO_mix_46 (by decide) ?_
          refine lv_isub hx hb d_MO_mix_47 ?_
          refine va_lald hx hb hK hP 3 1 rfl rfl (by exact ix_min 2 64 (by assumption) (by assumption) (by decide)) d_MO_mix_48 ?_
          refine lv_lstore (lv' := [(5, .long (y3 ((x2 - (2 : Int32))).toNatClampNeg)), (3, .long (y3 ((x2 - (15 : Int32))).toNatClampNeg)), (0, .ref h), (1, .int fr), (2, .int x2)]) hx hb d_MO_mix_49 hl (by decide) rfl (fun ls hl => ?_)
          refine lv_lload_n hx hb d_MO_mix_51 rfl (lv_at hl 1 rfl) ?_
          refine lv_bipush (v := 7) hx hb d_MO_mix_52 (by decide) ?_
          have hPc := hP.sub (ws' := []) [] rfl
          have hDc := hD.sub (ws' := []) [] (by decide) rfl
          have hFc := va_free (wc := []) hD hS hA [] rfl
          refine va_calll (va_runS (As := [.long (y3 ((x2 - (15 : Int32))).toNatClampNeg), .int (7 : Int32)]) (rest := []) ⟨hx, hb, hml, hown, hts⟩ (c_MO_turned l dC dI cI cJ _ (y3 ((x2 - (15 : Int32))).toNatClampNeg) (7 : Int32)) ⟨callB_of 2 hts (bc_good gw_609) rfl rfl rfl (hts _ gw_6) (hts _ gw_607) (by decide +kernel) ⟨Nat.le_of_ble_eq_true rfl, Nat.le_of_ble_eq_true rfl⟩, (hts _ gw_608)⟩ ⟨bc_blind, fun U hU hW => ⟨rfl, bc_give hPc hDc hK hE hS hFc U hU hW⟩⟩ rfl rfl hl.1 rfl (lv_room (Nat.le_of_ble_eq_true rfl)) d_MO_mix_54 ⟨Nat.le_of_ble_eq_true rfl, Nat.le_of_ble_eq_true rfl⟩) hS (fun q _ h => hFc q h) hFc (fun r u t H9 locs ht hvm hp hB hz1 hk1 hS => ?_)
          subst hp
          obtain ⟨hP, hD⟩ := va_join (wr := [(h, .inr (5, [.int th, .ref af, .ref ak, .ref ar, .ref ag, .int le, .int lo, .int da, .ref ad, .ref ac, .ref ab, .int si, .ref ax, .ref aw, .ref an, .ref av, .ref aa])), (ac, .inl (cJ, 64, .inr (.inl kc))), (ax, .inl (cJ, 48, .inr (.inl tx))), (aw, .inl (cJ, 64, .inr (.inl y3))), (an, .inl (cJ, 8, .inr (.inl y4))), (av, .inl (cJ, 8, .inr (.inl y5)))]) (w1 := []) hP hD [] [0, 1, 2, 3, 4, 5] rfl rfl (by decide) (by decide) hk1 hFc (ht ▸ hB.1) hB.2.2
          have hP := hP.sub (ws' := [(h, .inr (5, [.int th, .ref af, .ref ak, .ref ar, .ref ag, .int le, .int lo, .int da, .ref ad, .ref ac, .ref ab, .int si, .ref ax, .ref aw, .ref an, .ref av, .ref aa])), (ac, .inl (cJ, 64, .inr (.inl kc))), (ax, .inl (cJ, 48, .inr (.inl tx))), (aw, .inl (cJ, 64, .inr (.inl y3))), (an, .inl (cJ, 8, .inr (.inl y4))), (av, .inl (cJ, 8, .inr (.inl y5)))]) [0, 1, 2, 3, 4, 5] rfl
          have hD := hD.sub (ws' := [(h, .inr (5, [.int th, .ref af, .ref ak, .ref ar, .ref ag, .int le, .int lo, .int da, .ref ad, .ref ac, .ref ab, .int si, .ref ax, .ref aw, .ref an, .ref av, .ref aa])), (ac, .inl (cJ, 64, .inr (.inl kc))), (ax, .inl (cJ, 48, .inr (.inl tx))), (aw, .inl (cJ, 64, .inr (.inl y3))), (an, .inl (cJ, 8, .inr (.inl y4))), (av, .inl (cJ, 8, .inr (.inl y5)))]) [0, 1, 2, 3, 4, 5] (by decide) rfl
          generalize H9 = H at hP hS ⊢
          refine lv_lload_n hx hb d_MO_mix_57 rfl (lv_at hl 1 rfl) ?_
          refine lv_bipush (v := 18) hx hb d_MO_mix_58 (by decide) ?_
          have hPc := hP.sub (ws' := []) [] rfl
          have hDc := hD.sub (ws' := []) [] (by decide) rfl
          have hFc := va_free (wc := []) hD hS hA [] rfl
          refine va_calll (va_runS (As := [.long (y3 ((x2 - (15 : Int32))).toNatClampNeg), .int (18 : Int32)]) (rest := [.long (f_MO_turned (y3 ((x2 - (15 : Int32))).toNatClampNeg) (7 : Int32))]) ⟨hx, hb, hml, hown, hts⟩ (c_MO_turned l dC dI cI cJ _ (y3 ((x2 - (15 : Int32))).toNatClampNeg) (18 : Int32)) ⟨callB_of 2 hts (bc_good gw_609) rfl rfl rfl (hts _ gw_6) (hts _ gw_607) (by decide +kernel) ⟨Nat.le_of_ble_eq_true rfl, Nat.le_of_ble_eq_true rfl⟩, (hts _ gw_608)⟩ ⟨bc_blind, fun U hU hW => ⟨rfl, bc_give hPc hDc hK hE hS hFc U hU hW⟩⟩ rfl rfl hl.1 rfl (lv_room (Nat.le_of_ble_eq_true rfl)) d_MO_mix_60 ⟨Nat.le_of_ble_eq_true rfl, Nat.le_of_ble_eq_true rfl⟩) hS (fun q _ h => hFc q h) hFc (fun r u t H9 locs ht hvm hp hB hz1 hk1 hS => ?_)
          subst hp
          obtain ⟨hP, hD⟩ := va_join (wr := [(h, .inr (5, [.int th, .ref af, .ref ak, .ref ar, .ref ag, .int le, .int lo, .int da, .ref ad, .ref ac, .ref ab, .int si, .ref ax, .ref aw, .ref an, .ref av, .ref aa])), (ac, .inl (cJ, 64, .inr (.inl kc))), (ax, .inl (cJ, 48, .inr (.inl tx))), (aw, .inl (cJ, 64, .inr (.inl y3))), (an, .inl (cJ, 8, .inr (.inl y4))), (av, .inl (cJ, 8, .inr (.inl y5)))]) (w1 := []) hP hD [] [0, 1, 2, 3, 4, 5] rfl rfl (by decide) (by decide) hk1 hFc (ht ▸ hB.1) hB.2.2
          have hP := hP.sub (ws' := [(h, .inr (5, [.int th, .ref af, .ref ak, .ref ar, .ref ag, .int le, .int lo, .int da, .ref ad, .ref ac, .ref ab, .int si, .ref ax, .ref aw, .ref an, .ref av, .ref aa])), (ac, .inl (cJ, 64, .inr (.inl kc))), (ax, .inl (cJ, 48, .inr (.inl tx))), (aw, .inl (cJ, 64, .inr (.inl y3))), (an, .inl (cJ, 8, .inr (.inl y4))), (av, .inl (cJ, 8, .inr (.inl y5)))]) [0, 1, 2, 3, 4, 5] rfl
          have hD := hD.sub (ws' := [(h, .inr (5, [.int th, .ref af, .ref ak, .ref ar, .ref ag, .int le, .int lo, .int da, .ref ad, .ref ac, .ref ab, .int si, .ref ax, .ref aw, .ref an, .ref av, .ref aa])), (ac, .inl (cJ, 64, .inr (.inl kc))), (ax, .inl (cJ, 48, .inr (.inl tx))), (aw, .inl (cJ, 64, .inr (.inl y3))), (an, .inl (cJ, 8, .inr (.inl y4))), (av, .inl (cJ, 8, .inr (.inl y5)))]) [0, 1, 2, 3, 4, 5] (by decide) rfl
          generalize H9 = H at hP hS ⊢
          refine lv_lxor hx hb d_MO_mix_63 ?_
          refine lv_lload_n hx hb d_MO_mix_64 rfl (lv_at hl 1 rfl) ?_
          refine lv_iconst (v := 3) hx hb d_MO_mix_65 (by decide) ?_
          refine lv_lshr (v := (jsr (y3 ((x2 - (15 : Int32))).toNatClampNeg) (3 : Int32))) hx hb d_MO_mix_66 rfl ?_
          refine lv_lxor hx hb d_MO_mix_67 ?_
          refine lv_lstore (lv' := [(7, .long (((f_MO_turned (y3 ((x2 - (15 : Int32))).toNatClampNeg) (7 : Int32)) ^^^ (f_MO_turned (y3 ((x2 - (15 : Int32))).toNatClampNeg) (18 : Int32))) ^^^ (jsr (y3 ((x2 - (15 : Int32))).toNatClampNeg) (3 : Int32)))), (5, .long (y3 ((x2 - (2 : Int32))).toNatClampNeg)), (3, .long (y3 ((x2 - (15 : Int32))).toNatClampNeg)), (0, .ref h), (1, .int fr), (2, .int x2)]) hx hb d_MO_mix_68 hl (by decide) rfl (fun ls hl => ?_)
          refine lv_lload hx hb d_MO_mix_70 (lv_at hl 1 rfl) ?_
          refine lv_bipush (v := 17) hx hb d_MO_mix_72 (by decide) ?_
          have hPc := hP.sub (ws' := []) [] rfl
          have hDc := hD.sub (ws' := []) [] (by decide) rfl
          have hFc := va_free (wc := []) hD hS hA [] rfl
          refine va_calll (va_runS (As := [.long (y3 ((x2 - (2 : Int32))).toNatClampNeg), .int (17 : Int32)]) (rest := []) ⟨hx, hb, hml, hown, hts⟩ (c_MO_turned l dC dI cI cJ _ (y3 ((x2 - (2 : Int32))).toNatClampNeg) (17 : Int32)) ⟨callB_of 2 hts (bc_good gw_609) rfl rfl rfl (hts _ gw_6) (hts _ gw_607) (by decide +kernel) ⟨Nat.le_of_ble_eq_true rfl, Nat.le_of_ble_eq_true rfl⟩, (hts _ gw_608)⟩ ⟨bc_blind, fun U hU hW => ⟨rfl, bc_give hPc hDc hK hE hS hFc U hU hW⟩⟩ rfl rfl hl.1 rfl (lv_room (Nat.le_of_ble_eq_true rfl)) d_MO_mix_74 ⟨Nat.le_of_ble_eq_true rfl, Nat.le_of_ble_eq_true rfl⟩) hS (fun q _ h => hFc q h) hFc (fun r u t H9 locs ht hvm hp hB hz1 hk1 hS => ?_)
          subst hp
          obtain ⟨hP, hD⟩ := va_join (wr := [(h, .inr (5, [.int th, .ref af, .ref ak, .ref ar, .ref ag, .int le, .int lo, .int da, .ref ad, .ref ac, .ref ab, .int si, .ref ax, .ref aw, .ref an, .ref av, .ref aa])), (ac, .inl (cJ, 64, .inr (.inl kc))), (ax, .inl (cJ, 48, .inr (.inl tx))), (aw, .inl (cJ, 64, .inr (.inl y3))), (an, .inl (cJ, 8, .inr (.inl y4))), (av, .inl (cJ, 8, .inr (.inl y5)))]) (w1 := []) hP hD [] [0, 1, 2, 3, 4, 5] rfl rfl (by decide) (by decide) hk1 hFc (ht ▸ hB.1) hB.2.2
          have hP := hP.sub (ws' := [(h, .inr (5, [.int th, .ref af, .ref ak, .ref ar, .ref ag, .int le, .int lo, .int da, .ref ad, .ref ac, .ref ab, .int si, .ref ax, .ref aw, .ref an, .ref av, .ref aa])), (ac, .inl (cJ, 64, .inr (.inl kc))), (ax, .inl (cJ, 48, .inr (.inl tx))), (aw, .inl (cJ, 64, .inr (.inl y3))), (an, .inl (cJ, 8, .inr (.inl y4))), (av, .inl (cJ, 8, .inr (.inl y5)))]) [0, 1, 2, 3, 4, 5] rfl
          have hD := hD.sub (ws' := [(h, .inr (5, [.int th, .ref af, .ref ak, .ref ar, .ref ag, .int le, .int lo, .int da, .ref ad, .ref ac, .ref ab, .int si, .ref ax, .ref aw, .ref an, .ref av, .ref aa])), (ac, .inl (cJ, 64, .inr (.inl kc))), (ax, .inl (cJ, 48, .inr (.inl tx))), (aw, .inl (cJ, 64, .inr (.inl y3))), (an, .inl (cJ, 8, .inr (.inl y4))), (av, .inl (cJ, 8, .inr (.inl y5)))]) [0, 1, 2, 3, 4, 5] (by decide) rfl
          generalize H9 = H at hP hS ⊢
          refine lv_lload hx hb d_MO_mix_77 (lv_at hl 1 rfl) ?_
          refine lv_bipush (v := 19) hx hb d_MO_mix_79 (by decide) ?_
          have hPc := hP.sub (ws' := []) [] rfl
          have hDc := hD.sub (ws' := []) [] (by decide) rfl
          have hFc := va_free (wc := []) hD hS hA [] rfl
          refine va_calll (va_runS (As := [.long (y3 ((x2 - (2 : Int32))).toNatClampNeg), .int (19 : Int32)]) (rest := [.long (f_MO_turned (y3 ((x2 - (2 : Int32))).toNatClampNeg) (17 : Int32))]) ⟨hx, hb, hml, hown, hts⟩ (c_MO_turned l dC dI cI cJ _ (y3 ((x2 - (2 : Int32))).toNatClampNeg) (19 : Int32)) ⟨callB_of 2 hts (bc_good gw_609) rfl rfl rfl (hts _ gw_6) (hts _ gw_607) (by decide +kernel) ⟨Nat.le_of_ble_eq_true rfl, Nat.le_of_ble_eq_true rfl⟩, (hts _ gw_608)⟩ ⟨bc_blind, fun U hU hW => ⟨rfl, bc_give hPc hDc hK hE hS hFc U hU hW⟩⟩ rfl rfl hl.1 rfl (lv_room (Nat.le_of_ble_eq_true rfl)) d_MO_mix_81 ⟨Nat.le_of_ble_eq_true rfl, Nat.le_of_ble_eq_true rfl⟩) hS (fun q _ h => hFc q h) hFc (fun r u t H9 locs ht hvm hp hB hz1 hk1 hS => ?_)
          subst hp
          obtain ⟨hP, hD⟩ := va_join (wr := [(h, .inr (5, [.int th, .ref af, .ref ak, .ref ar, .ref ag, .int le, .int lo, .int da, .ref ad, .ref ac, .ref ab, .int si, .ref ax, .ref aw, .ref an, .ref av, .ref aa])), (ac, .inl (cJ, 64, .inr (.inl kc))), (ax, .inl (cJ, 48, .inr (.inl tx))), (aw, .inl (cJ, 64, .inr (.inl y3))), (an, .inl (cJ, 8, .inr (.inl y4))), (av, .inl (cJ, 8, .inr (.inl y5)))]) (w1 := []) hP hD [] [0, 1, 2, 3, 4, 5] rfl rfl (by decide) (by decide) hk1 hFc (ht ▸ hB.1) hB.2.2
          have hP := hP.sub (ws' := [(h, .inr (5, [.int th, .ref af, .ref ak, .ref ar, .ref ag, .int le, .int lo, .int da, .ref ad, .ref ac, .ref ab, .int si, .ref ax, .ref aw, .ref an, .ref av, .ref aa])), (ac, .inl (cJ, 64, .inr (.inl kc))), (ax, .inl (cJ, 48, .inr (.inl tx))), (aw, .inl (cJ, 64, .inr (.inl y3))), (an, .inl (cJ, 8, .inr (.inl y4))), (av, .inl (cJ, 8, .inr (.inl y5)))]) [0, 1, 2, 3, 4, 5] rfl
          have hD := hD.sub (ws' := [(h, .inr (5, [.int th, .ref af, .ref ak, .ref ar, .ref ag, .int le, .int lo, .int da, .ref ad, .ref ac, .ref ab, .int si, .ref ax, .ref aw, .ref an, .ref av, .ref aa])), (ac, .inl (cJ, 64, .inr (.inl kc))), (ax, .inl (cJ, 48, .inr (.inl tx))), (aw, .inl (cJ, 64, .inr (.inl y3))), (an, .inl (cJ, 8, .inr (.inl y4))), (av, .inl (cJ, 8, .inr (.inl y5)))]) [0, 1, 2, 3, 4, 5] (by decide) rfl
          generalize H9 = H at hP hS ⊢
          refine lv_lxor hx hb d_MO_mix_84 ?_
          refine lv_lload hx hb d_MO_mix_85 (lv_at hl 1 rfl) ?_
          refine lv_bipush (v := 10) hx hb d_MO_mix_87 (by decide) ?_
          refine lv_lshr (v := (jsr (y3 ((x2 - (2 : Int32))).toNatClampNeg) (10 : Int32))) hx hb d_MO_mix_89 rfl ?_
          refine lv_lxor hx hb d_MO_mix_90 ?_
          refine lv_lstore (lv' := [(9, .long (((f_MO_turned (y3 ((x2 - (2 : Int32))).toNatClampNeg) (17 : Int32)) ^^^ (f_MO_turned (y3 ((x2 - (2 : Int32))).toNatClampNeg) (19 : Int32))) ^^^ (jsr (y3 ((x2 - (2 : Int32))).toNatClampNeg) (10 : Int32)))), (7, .long (((f_MO_turned (y3 ((x2 - (15 : Int32))).toNatClampNeg) (7 : Int32)) ^^^ (f_MO_turned (y3 ((x2 - (15 : Int32))).toNatClampNeg) (18 : Int32))) ^^^ (jsr (y3 ((x2 - (15 : Int32))).toNatClampNeg) (3 : Int32)))), (5, .long (y3 ((x2 - (2 : Int32))).toNatClampNeg)), (3, .long (y3 ((x2 - (15 : Int32))).toNatClampNeg)), (0, .ref h), (1, .int fr), (2, .int x2)]) hx hb d_MO_mix_91 hl (by decide) rfl (fun ls hl => ?_)
          refine lv_aload_n hx hb d_MO_mix_93 rfl (lv_at hl 4 rfl) ?_
          refine va_get (D := (dC, dI)) (ci := 5) (v := .ref aw) (C := R_MO) (T := F_MO) (N := 17) hx hb hts in_MO hown hK hP 0 rfl rfl 13 (by decide) (hts _ gw_531) (fun _ h9 => h9) rfl d_MO_mix_94 ?_
          refine lv_iload_n hx hb d_MO_mix_97 rfl (lv_at hl 6 rfl) ?_
          refine lv_aload_n hx hb d_MO_mix_98 rfl (lv_at hl 4 rfl) ?_
          refine va_get (D := (dC, dI)) (ci := 5) (v := .ref aw) (C := R_MO) (T := F_MO) (N := 17) hx hb hts in_MO hown hK hP 0 rfl rfl 13 (by decide) (hts _ gw_531) (fun _ h9 => h9) rfl d_MO_mix_99 ?_
          refine lv_iload_n hx hb d_MO_mix_102 rfl (lv_at hl 6 rfl) ?_
          refine lv_bipush (v := 16) hx hb d_MO_mix_103 (by decide) ?_
          refine lv_isub hx hb d_MO_mix_105 ?_
          refine va_lald hx hb hK hP 3 1 rfl rfl (by exact ix_min 16 64 (by assumption) (by assumption) (by decide)) d_MO_mix_106 ?_
          refine lv_lload hx hb d_MO_mix_107 (lv_at hl 1 rfl) ?_
          refine lv_ladd hx hb d_MO_mix_109 ?_
          refine lv_aload_n hx hb d_MO_mix_110 rfl (lv_at hl 4 rfl) ?_
          refine va_get (D := (dC, dI)) (ci := 5) (v := .ref aw) (C := R_MO) (T := F_MO) (N := 17) hx hb hts in_MO hown hK hP 0 rfl rfl 13 (by decide) (hts _ gw_531) (fun _ h9 => h9) rfl d_MO_mix_111 ?_
          refine lv_iload_n hx hb d_MO_mix_114 rfl (lv_at hl 6 rfl) ?_
          refine lv_bipush (v := 7) hx hb d_MO_mix_115 (by decide) ?_
          refine lv_isub hx hb d_MO_mix_117 ?_
          refine va_lald hx hb hK hP 3 1 rfl rfl (by exact ix_min 7 64 (by assumption) (by assumption) (by decide)) d_MO_mix_118 ?_
          refine lv_ladd hx hb d_MO_mix_119 ?_
          refine lv_lload hx hb d_MO_mix_120 (lv_at hl 0 rfl) ?_
          refine lv_ladd hx hb d_MO_mix_122 ?_
          refine lv_ldc2 (v := 4294967295) hx hb hown (hts _ gw_579) d_MO_mix_123 ?_
          refine lv_land hx hb d_MO_mix_126 ?_
          refine va_last hx hb hK hP hD hS 3 1 rfl rfl (by exact ix_sub 64 64 hI.1 (by assumption) rfl (by decide) (by decide)) d_MO_mix_127 (fun H locs hP hD hS => ?_)
          have hP : va_P (dC, dI) classes [(h, .inr (5, [.int th, .ref af, .ref ak, .ref ar, .ref ag, .int le, .int lo, .int da, .ref ad, .ref ac, .ref ab, .int si, .ref ax, .ref aw, .ref an, .ref av, .ref aa])), (ac, .inl (cJ, 64, .inr (.inl kc))), (ax, .inl (cJ, 48, .inr (.inl tx))), (aw, .inl (cJ, 64, .inr (.inl (vp_updL y3 (x2).toNatClampNeg (((((y3 ((x2 - (16 : Int32))).toNatClampNeg) + (((f_MO_turned (y3 ((x2 - (15 : Int32))).toNatClampNeg) (7 : Int32)) ^^^ (f_MO_turned (y3 ((x2 - (15 : Int32))).toNatClampNeg) (18 : Int32))) ^^^ (jsr (y3 ((x2 - (15 : Int32))).toNatClampNeg) (3 : Int32)))) + (y3 ((x2 - (7 : Int32))).toNatClampNeg)) + (((f_MO_turned (y3 ((x2 - (2 : Int32))).toNatClampNeg) (17 : Int32)) ^^^ (f_MO_turned (y3 ((x2 - (2 : Int32))).toNatClampNeg) (19 : Int32))) ^^^ (jsr (y3 ((x2 - (2 : Int32))).toNatClampNeg) (10 : Int32)))) &&& (4294967295 : Int64)))))), (an, .inl (cJ, 8, .inr (.inl y4))), (av, .inl (cJ, 8, .inr (.inl y5)))] H := hP
          have hD : va_D A [(h, .inr (5, [.int th, .ref af, .ref ak, .ref ar, .ref ag, .int le, .int lo, .int da, .ref ad, .ref ac, .ref ab, .int si, .ref ax, .ref aw, .ref an, .ref av, .ref aa])), (ac, .inl (cJ, 64, .inr (.inl kc))), (ax, .inl (cJ, 48, .inr (.inl tx))), (aw, .inl (cJ, 64, .inr (.inl (vp_updL y3 (x2).toNatClampNeg (((((y3 ((x2 - (16 : Int32))).toNatClampNeg) + (((f_MO_turned (y3 ((x2 - (15 : Int32))).toNatClampNeg) (7 : Int32)) ^^^ (f_MO_turned (y3 ((x2 - (15 : Int32))).toNatClampNeg) (18 : Int32))) ^^^ (jsr (y3 ((x2 - (15 : Int32))).toNatClampNeg) (3 : Int32)))) + (y3 ((x2 - (7 : Int32))).toNatClampNeg)) + (((f_MO_turned (y3 ((x2 - (2 : Int32))).toNatClampNeg) (17 : Int32)) ^^^ (f_MO_turned (y3 ((x2 - (2 : Int32))).toNatClampNeg) (19 : Int32))) ^^^ (jsr (y3 ((x2 - (2 : Int32))).toNatClampNeg) (10 : Int32)))) &&& (4294967295 : Int64)))))), (an, .inl (cJ, 8, .inr (.inl y4))), (av, .inl (cJ, 8, .inr (.inl y5)))] := hD
          refine lv_iinc (k := 6) (v := (x2 + (1 : Int32))) (lv' := [(2, .int (x2 + (1 : Int32))), (9, .long (((f_MO_turned (y3 ((x2 - (2 : Int32))).toNatClampNeg) (17 : Int32)) ^^^ (f_MO_turned (y3 ((x2 - (2 : Int32))).toNatClampNeg) (19 : Int32))) ^^^ (jsr (y3 ((x2 - (2 : Int32))).toNatClampNeg) (10 : Int32)))), (7, .long (((f_MO_turned (y3 ((x2 - (15 : Int32))).toNatClampNeg) (7 : Int32)) ^^^ (f_MO_turned (y3 ((x2 - (15 : Int32))).toNatClampNeg) (18 : Int32))) ^^^ (jsr (y3 ((x2 - (15 : Int32))).toNatClampNeg) (3 : Int32)))), (5, .long (y3 ((x2 - (2 : Int32))).toNatClampNeg)), (3, .long (y3 ((x2 - (15 : Int32))).toNatClampNeg)), (0, .ref h), (1, .int fr)]) hx hb d_MO_mix_128 hl rfl rfl (by decide) rfl (fun ls hl => ?_)
          refine lv_goto (tgt := 2) hx hb d_MO_mix_131 (by decide) ?_
          have e0 : (f_MO_mix_2 fr th le lo da si kc tx wi nw vv (n + 1) x2 y3 y4 y5) = f_MO_mix_2 fr th le lo da si kc tx wi nw vv n (x2 + (1 : Int32)) (vp_updL y3 (x2).toNatClampNeg (((((y3 ((x2 - (16 : Int32))).toNatClampNeg) + (((f_MO_turned (y3 ((x2 - (15 : Int32))).toNatClampNeg) (7 : Int32)) ^^^ (f_MO_turned (y3 ((x2 - (15 : Int32))).toNatClampNeg) (18 : Int32))) ^^^ (jsr (y3 ((x2 - (15 : Int32))).toNatClampNeg) (3 : Int32)))) + (y3 ((x2 - (7 : Int32))).toNatClampNeg)) + (((f_MO_turned (y3 ((x2 - (2 : Int32))).toNatClampNeg) (17 : Int32)) ^^^ (f_MO_turned (y3 ((x2 - (2 : Int32))).toNatClampNeg) (19 : Int32))) ^^^ (jsr (y3 ((x2 - (2 : Int32))).toNatClampNeg) (10 : Int32)))) &&& (4294967295 : Int64))) y4 y5 := by rw [f_MO_mix_2, if_neg h6, if_pos h7]
          rw [e0]
          exact ih (x2 + (1 : Int32)) (vp_updL y3 (x2).toNatClampNeg (((((y3 ((x2 - (16 : Int32))).toNatClampNeg) + (((f_MO_turned (y3 ((x2 - (15 : Int32))).toNatClampNeg) (7 : Int32)) ^^^ (f_MO_turned (y3 ((x2 - (15 : Int32))).toNatClampNeg) (18 : Int32))) ^^^ (jsr (y3 ((x2 - (15 : Int32))).toNatClampNeg) (3 : Int32)))) + (y3 ((x2 - (7 : Int32))).toNatClampNeg)) + (((f_MO_turned (y3 ((x2 - (2 : Int32))).toNatClampNeg) (17 : Int32)) ^^^ (f_MO_turned (y3 ((x2 - (2 : Int32))).toNatClampNeg) (19 : Int32))) ^^^ (jsr (y3 ((x2 - (2 : Int32))).toNatClampNeg) (10 : Int32)))) &&& (4294967295 : Int64))) y4 y5 _ _ ls (lp_up hI.1 (by assumption)).1 (lp_ms hI.1 (by assumption) hm) (lv_sub hl [5, 6, 0] rfl) hP hD hS
        · refine lv_aload_n hx hb d_MO_mix_14 rfl (lv_at hl 0 rfl) ?_
          refine va_get (D := (dC, dI)) (ci := 5) (v := .ref aw) (C := R_MO) (T := F_MO) (N := 17) hx hb hts in_MO hown hK hP 0 rfl rfl 13 (by decide) (hts _ gw_531) (fun _ h9 => h9) rfl d_MO_mix_15 ?_
          refine lv_iload_n hx hb d_MO_mix_18 rfl (lv_at hl 2 rfl) ?_
          refine lv_aload_n hx hb d_MO_mix_19 rfl (lv_at hl 0 rfl) ?_
          refine va_get (D := (dC, dI)) (ci := 5) (v := .ref ax) (C := R_MO) (T := F_MO) (N := 17) hx hb hts in_MO hown hK hP 0 rfl rfl 12 (by decide) (hts _ gw_530) (fun _ h9 => h9) rfl d_MO_mix_20 ?_
          refine lv_iload_n hx hb d_MO_mix_23 rfl (lv_at hl 1 rfl) ?_
          refine lv_iload_n hx hb d_MO_mix_24 rfl (lv_at hl 2 rfl) ?_
          refine lv_iadd hx hb d_MO_mix_25 ?_
          refine va_lald hx hb hK hP 2 1 rfl rfl (by exact ix_bl48 hbl hI.1 (by assumption)) d_MO_mix_26 ?_
          refine va_last hx hb hK hP hD hS 3 1 rfl rfl (by exact ix_sub 64 64 hI.1 (by assumption) rfl (by decide) (by decide)) d_MO_mix_27 (fun H locs hP hD hS => ?_)
          have hP : va_P (dC, dI) classes [(h, .inr (5, [.int th, .ref af, .ref ak, .ref ar, .ref ag, .int le, .int lo, .int da, .ref ad, .ref ac, .ref ab, .int si, .ref ax, .ref aw, .ref an, .ref av, .ref aa])), (ac, .inl (cJ, 64, .inr (.inl kc))), (ax, .inl (cJ, 48, .inr (.inl tx))), (aw, .inl (cJ, 64, .inr (.inl (vp_updL y3 (x2).toNatClampNeg (tx ((fr + x2)).toNatClampNeg))))), (an, .inl (cJ, 8, .inr (.inl y4))), (av, .inl (cJ, 8, .inr (.inl y5)))] H := hP
          have hD : va_D A [(h, .inr (5, [.int th, .ref af, .ref ak, .ref ar, .ref ag, .int le, .int lo, .int da, .ref ad, .ref ac, .ref ab, .int si, .ref ax, .ref aw, .ref an, .ref av, .ref aa])), (ac, .inl (cJ, 64, .inr (.inl kc))), (ax, .inl (cJ, 48, .inr (.inl tx))), (aw, .inl (cJ, 64, .inr (.inl (vp_updL y3 (x2).toNatClampNeg (tx ((fr + x2)).toNatClampNeg))))), (an, .inl (cJ, 8, .inr (.inl y4))), (av, .inl (cJ, 8, .inr (.inl y5)))] := hD
          refine lv_goto (tgt := 128) hx hb d_MO_mix_28 (by decide) ?_
          refine lv_iinc (k := 2) (v := (x2 + (1 : Int32))) (lv' := [(2, .int (x2 + (1 : Int32))), (0, .ref h), (1, .int fr)]) hx hb d_MO_mix_128 hl rfl rfl (by decide) rfl (fun ls hl => ?_)
          refine lv_goto (tgt := 2) hx hb d_MO_mix_131 (by decide) ?_
          have e0 : (f_MO_mix_2 fr th le lo da si kc tx wi nw vv (n + 1) x2 y3 y4 y5) = f_MO_mix_2 fr th le lo da si kc tx wi nw vv n (x2 + (1 : Int32)) (vp_updL y3 (x2).toNatClampNeg (tx ((fr + x2)).toNatClampNeg)) y4 y5 := by rw [f_MO_mix_2, if_neg h6, if_neg h7]
          rw [e0]
          exact ih (x2 + (1 : Int32)) (vp_updL y3 (x2).toNatClampNeg (tx ((fr + x2)).toNatClampNeg)) y4 y5 _ _ ls (lp_up hI.1 (by assumption)).1 (lp_ms hI.1 (by assumption) hm) (lv_sub hl [1, 2, 0] rfl) hP hD hS
  have hl := lv_entry ([.ref h, .int fr]) (n := 20) (Nat.le_of_ble_eq_true rfl)
  rw [lg_entry_eq]
  generalize (lg_sl ([.ref h, .int fr]) ++ List.replicate (20 - (lg_sl ([.ref h, .int fr])).length) Slot.unset).toArray = ls at hl ⊢
  have hl : lv_has ls 20 [(0, .ref h), (1, .int fr)] := hl
  refine lv_iconst (v := 0) hx hb d_MO_mix_0 (by decide) ?_
  refine lv_istore_n (lv' := [(2, .int (0 : Int32)), (0, .ref h), (1, .int fr)]) hx hb d_MO_mix_1 rfl hl (by decide) rfl (fun ls hl => ?_)
  have e0 : (f_MO_mix fr th le lo da si kc tx wi nw vv) = f_MO_mix_2 fr th le lo da si kc tx wi nw vv 65 (0 : Int32) wi nw vv := by rw [f_MO_mix]
  rw [e0]
  exact lp_2 65 (0 : Int32) wi nw vv _ _ ls ⟨by decide, by decide⟩ (by decide) (lv_sub hl [1, 2, 0] rfl) hP hD hS
-- MO_hashText
theorem d_MO_hashText_0 : decode prog_8_method_9_code 0 = .ok (.ldc2_w 207, 3) := by decide +kernel
theorem d_MO_hashText_3 : decode prog_8_method_9_code 3 = .ok (.aload_n 0, 1) := by decide +kernel
theorem d_MO_hashText_4 : decode prog_8_method_9_code 4 = .ok (.getfield 198, 3) := by decide +kernel
theorem d_MO_hashText_7 : decode prog_8_method_9_code 7 = .ok (.i2l, 1) := by decide +kernel
theorem d_MO_hashText_8 : decode prog_8_method_9_code 8 = .ok (.lmul, 1) := by decide +kernel
theorem d_MO_hashText_9 : decode prog_8_method_9_code 9 = .ok (.lstore_n 1, 1) := by decide +kernel
theorem d_MO_hashText_10 : decode prog_8_method_9_code 10 = .ok (.aload_n 0, 1) := by decide +kernel
theorem d_MO_hashText_11 : decode prog_8_method_9_code 11 = .ok (.ldc 209, 2) := by decide +kernel
theorem d_MO_hashText_13 : decode prog_8_method_9_code 13 = .ok (.invokevirtual 203, 3) := by decide +kernel
theorem d_MO_hashText_16 : decode prog_8_method_9_code 16 = .ok (.aload_n 0, 1) := by decide +kernel
theorem d_MO_hashText_17 : decode prog_8_method_9_code 17 = .ok (.getfield 198, 3) := by decide +kernel
theorem d_MO_hashText_20 : decode prog_8_method_9_code 20 = .ok (.bipush 16, 2) := by decide +kernel
theorem d_MO_hashText_22 : decode prog_8_method_9_code 22 = .ok (.irem, 1) := by decide +kernel
theorem d_MO_hashText_23 : decode prog_8_method_9_code 23 = .ok (.bipush 14, 2) := by decide +kernel
theorem d_MO_hashText_25 : decode prog_8_method_9_code 25 = .ok (.if_icmp .eq 11, 3) := by decide +kernel
theorem d_MO_hashText_28 : decode prog_8_method_9_code 28 = .ok (.aload_n 0, 1) := by decide +kernel
theorem d_MO_hashText_29 : decode prog_8_method_9_code 29 = .ok (.iconst 0, 1) := by decide +kernel
theorem d_MO_hashText_30 : decode prog_8_method_9_code 30 = .ok (.invokevirtual 203, 3) := by decide +kernel
theorem d_MO_hashText_33 : decode prog_8_method_9_code 33 = .ok (.goto (-17), 3) := by decide +kernel
theorem d_MO_hashText_36 : decode prog_8_method_9_code 36 = .ok (.aload_n 0, 1) := by decide +kernel
theorem d_MO_hashText_37 : decode prog_8_method_9_code 37 = .ok (.iconst 0, 1) := by decide +kernel
theorem d_MO_hashText_38 : decode prog_8_method_9_code 38 = .ok (.invokevirtual 203, 3) := by decide +kernel
theorem d_MO_hashText_41 : decode prog_8_method_9_code 41 = .ok (.aload_n 0, 1) := by decide +kernel
theorem d_MO_hashText_42 : decode prog_8_method_9_code 42 = .ok (.lload_n 1, 1) := by decide +kernel
theorem d_MO_hashText_43 : decode prog_8_method_9_code 43 = .ok (.l2i, 1) := by decide +kernel
theorem d_MO_hashText_44 : decode prog_8_method_9_code 44 = .ok (.invokevirtual 203, 3) := by decide +kernel
theorem d_MO_hashText_47 : decode prog_8_method_9_code 47 = .ok (.iconst 0, 1) := by decide +kernel
theorem d_MO_hashText_48 : decode prog_8_method_9_code 48 = .ok (.istore_n 3, 1) := by decide +kernel
theorem d_MO_hashText_49 : decode prog_8_method_9_code 49 = .ok (.iload_n 3, 1) := by decide +kernel
theorem d_MO_hashText_50 : decode prog_8_method_9_code 50 = .ok (.bipush 8, 2) := by decide +kernel
theorem d_MO_hashText_52 : decode prog_8_method_9_code 52 = .ok (.if_icmp .ge 21, 3) := by decide +kernel
theorem d_MO_hashText_55 : decode prog_8_method_9_code 55 = .ok (.aload_n 0, 1) := by decide +kernel
theorem d_MO_hashText_56 : decode prog_8_method_9_code 56 = .ok (.getfield 42, 3) := by decide +kernel
theorem d_MO_hashText_59 : decode prog_8_method_9_code 59 = .ok (.iload_n 3, 1) := by decide +kernel
theorem d_MO_hashText_60 : decode prog_8_method_9_code 60 = .ok (.aload_n 0, 1) := by decide +kernel
theorem d_MO_hashText_61 : decode prog_8_method_9_code 61 = .ok (.getfield 33, 3) := by decide +kernel
theorem d_MO_hashText_64 : decode prog_8_method_9_code 64 = .ok (.iload_n 3, 1) := by decide +kernel
theorem d_MO_hashText_65 : decode prog_8_method_9_code 65 = .ok (.laload, 1) := by decide +kernel
theorem d_MO_hashText_66 : decode prog_8_method_9_code 66 = .ok (.lastore, 1) := by decide +kernel
theorem d_MO_hashText_67 : decode prog_8_method_9_code 67 = .ok (.iinc 3 1, 3) := by decide +kernel
theorem d_MO_hashText_70 : decode prog_8_method_9_code 70 = .ok (.goto (-21), 3) := by decide +kernel
theorem d_MO_hashText_73 : decode prog_8_method_9_code 73 = .ok (.iconst 0, 1) := by decide +kernel
theorem d_MO_hashText_74 : decode prog_8_method_9_code 74 = .ok (.istore_n 3, 1) := by decide +kernel
theorem d_MO_hashText_75 : decode prog_8_method_9_code 75 = .ok (.iload_n 3, 1) := by decide +kernel
theorem d_MO_hashText_76 : decode prog_8_method_9_code 76 = .ok (.aload_n 0, 1) := by decide +kernel
theorem d_MO_hashText_77 : decode prog_8_method_9_code 77 = .ok (.getfield 198, 3) := by decide +kernel
theorem d_MO_hashText_80 : decode prog_8_method_9_code 80 = .ok (.if_icmp .ge 14, 3) := by decide +kernel
theorem d_MO_hashText_83 : decode prog_8_method_9_code 83 = .ok (.aload_n 0, 1) := by decide +kernel
theorem d_MO_hashText_84 : decode prog_8_method_9_code 84 = .ok (.iload_n 3, 1) := by decide +kernel
theorem d_MO_hashText_85 : decode prog_8_method_9_code 85 = .ok (.invokevirtual 210, 3) := by decide +kernel
theorem d_MO_hashText_88 : decode prog_8_method_9_code 88 = .ok (.iinc 3 16, 3) := by decide +kernel
theorem d_MO_hashText_91 : decode prog_8_method_9_code 91 = .ok (.goto (-16), 3) := by decide +kernel
theorem d_MO_hashText_94 : decode prog_8_method_9_code 94 = .ok (.iconst 0, 1) := by decide +kernel
theorem d_MO_hashText_95 : decode prog_8_method_9_code 95 = .ok (.istore_n 3, 1) := by decide +kernel
theorem d_MO_hashText_96 : decode prog_8_method_9_code 96 = .ok (.iload_n 3, 1) := by decide +kernel
theorem d_MO_hashText_97 : decode prog_8_method_9_code 97 = .ok (.bipush 8, 2) := by decide +kernel
theorem d_MO_hashText_99 : decode prog_8_method_9_code 99 = .ok (.if_icmp .ge 22, 3) := by decide +kernel
theorem d_MO_hashText_102 : decode prog_8_method_9_code 102 = .ok (.aload_n 0, 1) := by decide +kernel
theorem d_MO_hashText_103 : decode prog_8_method_9_code 103 = .ok (.getfield 48, 3) := by decide +kernel
theorem d_MO_hashText_106 : decode prog_8_method_9_code 106 = .ok (.iload_n 3, 1) := by decide +kernel
theorem d_MO_hashText_107 : decode prog_8_method_9_code 107 = .ok (.aload_n 0, 1) := by decide +kernel
theorem d_MO_hashText_108 : decode prog_8_method_9_code 108 = .ok (.getfield 42, 3) := by decide +kernel
theorem d_MO_hashText_111 : decode prog_8_method_9_code 111 = .ok (.iload_n 3, 1) := by decide +kernel
theorem d_MO_hashText_112 : decode prog_8_method_9_code 112 = .ok (.laload, 1) := by decide +kernel
theorem d_MO_hashText_113 : decode prog_8_method_9_code 113 = .ok (.l2i, 1) := by decide +kernel
theorem d_MO_hashText_114 : decode prog_8_method_9_code 114 = .ok (.iastore, 1) := by decide +kernel
theorem d_MO_hashText_115 : decode prog_8_method_9_code 115 = .ok (.iinc 3 1, 3) := by decide +kernel
theorem d_MO_hashText_118 : decode prog_8_method_9_code 118 = .ok (.goto (-22), 3) := by decide +kernel
theorem d_MO_hashText_121 : decode prog_8_method_9_code 121 = .ok (.aload_n 0, 1) := by decide +kernel
theorem d_MO_hashText_122 : decode prog_8_method_9_code 122 = .ok (.iconst 0, 1) := by decide +kernel
theorem d_MO_hashText_123 : decode prog_8_method_9_code 123 = .ok (.putfield 198, 3) := by decide +kernel
theorem d_MO_hashText_126 : decode prog_8_method_9_code 126 = .ok (.return_, 1) := by decide +kernel
def y_MO_hashText : MethodName := ⟨"BootChainModel", "hashText", "()V"⟩
def ws_MO_hashText : List Cond := .code y_MO_hashText prog_8_method_9_code 4 none :: bc_G
def f_MO_hashText_96 (th : Int32) (le : Int32) (lo : Int32) (da : Int32) (si : Int32) (kc : Nat → Int64) (bg : Nat → Int64) (tx : Nat → Int64) (wi : Nat → Int64) (nw : Nat → Int64) (vv : Nat → Int64) (aw_ : Nat → Int32) : Nat → Int32 → Int32 → (Nat → Int64) → (Nat → Int64) → (Nat → Int64) → (Nat → Int64) → (Nat → Int32) → Int32 × (Nat → Int64) × (Nat → Int64) × (Nat → Int64) × (Nat → Int64) × (Nat → Int32)
  | 0, x3, y0_11, y3, y4, y5, y6, y7 => ((0 : Int32), y3, y4, y5, y6, y7)
  | n + 1, x3, y0_11, y3, y4, y5, y6, y7 => if (8 : Int32) ≤ x3 then ((0 : Int32), y3, y4, y5, y6, y7) else f_MO_hashText_96 th le lo da si kc bg tx wi nw vv aw_ n (x3 + (1 : Int32)) y0_11 y3 y4 y5 y6 (upd y7 (x3).toNatClampNeg (((y5 (x3).toNatClampNeg)).toInt32))
def f_MO_hashText_75 (th : Int32) (le : Int32) (lo : Int32) (da : Int32) (si : Int32) (kc : Nat → Int64) (bg : Nat → Int64) (tx : Nat → Int64) (wi : Nat → Int64) (nw : Nat → Int64) (vv : Nat → Int64) (aw_ : Nat → Int32) : Nat → Int32 → Int32 → (Nat → Int64) → (Nat → Int64) → (Nat → Int64) → (Nat → Int64) → (Nat → Int32) → Int32 × (Nat → Int64) × (Nat → Int64) × (Nat → Int64) × (Nat → Int64) × (Nat → Int32)
  | 0, x3, y0_11, y3, y4, y5, y6, y7 => ((0 : Int32), y3, y4, y5, y6, y7)
  | n + 1, x3, y0_11, y3, y4, y5, y6, y7 => if y0_11 ≤ x3 then f_MO_hashText_96 th le lo da si kc bg tx wi nw vv aw_ 9 (0 : Int32) y0_11 y3 y4 y5 y6 y7 else f_MO_hashText_75 th le lo da si kc bg tx wi nw vv aw_ n (x3 + (16 : Int32)) y0_11 y3 ((f_MO_mix x3 th le lo da y0_11 kc y3 y4 y5 y6).1) ((f_MO_mix x3 th le lo da y0_11 kc y3 y4 y5 y6).2.1) ((f_MO_mix x3 th le lo da y0_11 kc y3 y4 y5 y6).2.2) y7
def f_MO_hashText_49 (th : Int32) (le : Int32) (lo : Int32) (da : Int32) (si : Int32) (kc : Nat → Int64) (bg : Nat → Int64) (tx : Nat → Int64) (wi : Nat → Int64) (nw : Nat → Int64) (vv : Nat → Int64) (aw_ : Nat → Int32) : Nat → Int32 → Int32 → (Nat → Int64) → (Nat → Int64) → (Nat → Int64) → (Nat → Int64) → (Nat → Int32) → Int32 × (Nat → Int64) × (Nat → Int64) × (Nat → Int64) × (Nat → Int64) × (Nat → Int32)
  | 0, x3, y0_11, y3, y4, y5, y6, y7 => ((0 : Int32), y3, y4, y5, y6, y7)
  | n + 1, x3, y0_11, y3, y4, y5, y6, y7 => if (8 : Int32) ≤ x3 then f_MO_hashText_75 th le lo da si kc bg tx wi nw vv aw_ 33 (0 : Int32) y0_11 y3 y4 y5 y6 y7 else f_MO_hashText_49 th le lo da si kc bg tx wi nw vv aw_ n (x3 + (1 : Int32)) y0_11 y3 y4 (vp_updL y5 (x3).toNatClampNeg (bg (x3).toNatClampNeg)) y6 y7
def f_MO_hashText_16 (th : Int32) (le : Int32) (lo : Int32) (da : Int32) (si : Int32) (kc : Nat → Int64) (bg : Nat → Int64) (tx : Nat → Int64) (wi : Nat → Int64) (nw : Nat → Int64) (vv : Nat → Int64) (aw_ : Nat → Int32) : Nat → Int64 → Int32 → (Nat → Int64) → (Nat → Int64) → (Nat → Int64) → (Nat → Int64) → (Nat → Int32) → Int32 × (Nat → Int64) × (Nat → Int64) × (Nat → Int64) × (Nat → Int64) × (Nat → Int32)
  | 0, x1, y0_11, y3, y4, y5, y6, y7 => ((0 : Int32), y3, y4, y5, y6, y7)
  | n + 1, x1, y0_11, y3, y4, y5, y6, y7 => if (y0_11 - y0_11 / (16 : Int32) * (16 : Int32)) = (14 : Int32) then f_MO_hashText_49 th le lo da si kc bg tx wi nw vv aw_ 9 (0 : Int32) ((f_MO_add ((x1).toInt32) th le lo da ((f_MO_add (0 : Int32) th le lo da y0_11 y3).1) ((f_MO_add (0 : Int32) th le lo da y0_11 y3).2)).1) ((f_MO_add ((x1).toInt32) th le lo da ((f_MO_add (0 : Int32) th le lo da y0_11 y3).1) ((f_MO_add (0 : Int32) th le lo da y0_11 y3).2)).2) y4 y5 y6 y7 else f_MO_hashText_16 th le lo da si kc bg tx wi nw vv aw_ n x1 ((f_MO_add (0 : Int32) th le lo da y0_11 y3).1) ((f_MO_add (0 : Int32) th le lo da y0_11 y3).2) y4 y5 y6 y7
def f_MO_hashText (th : Int32) (le : Int32) (lo : Int32) (da : Int32) (si : Int32) (kc : Nat → Int64) (bg : Nat → Int64) (tx : Nat → Int64) (wi : Nat → Int64) (nw : Nat → Int64) (vv : Nat → Int64) (aw_ : Nat → Int32) : Int32 × (Nat → Int64) × (Nat → Int64) × (Nat → Int64) × (Nat → Int64) × (Nat → Int32) := f_MO_hashText_16 th le lo da si kc bg tx wi nw vv aw_ 31 ((32 : Int64) * ((si).toInt64)) ((f_MO_add (-2147483648 : Int32) th le lo da si tx).1) ((f_MO_add (-2147483648 : Int32) th le lo da si tx).2) wi nw vv aw_
set_option maxHeartbeats 4000000 in
set_option maxRecDepth 100000 in
theorem c_MO_hashText (l : Launch) (dC : Nat → ClassId) (dI : Nat → Nat → Nat) (cI cJ : ClassId) (h af ak ar ag ad ac ab ax aw an av aa : Nat) (sz : Nat) (th : Int32) (le : Int32) (lo : Int32) (da : Int32) (si : Int32) (kc : Nat → Int64) (bg : Nat → Int64) (tx : Nat → Int64) (wi : Nat → Int64) (nw : Nat → Int64) (vv : Nat → Int64) (aw_ : Nat → Int32) (hsz : 0 ≤ si ∧ si ≤ 24) : Met l y_MO_hashText ws_MO_hashText ({ frames := 2, cells := 0, slots := 0, locals := 61 } : Room) (va_Pc [.ref h] (bc_pre (dC, dI) cI cJ [(h, .inr (5, [.int th, .ref af, .ref ak, .ref ar, .ref ag, .int le, .int lo, .int da, .ref ad, .ref ac, .ref ab, .int si, .ref ax, .ref aw, .ref an, .ref av, .ref aa])), (ac, .inl (cJ, 64, .inr (.inl kc))), (ab, .inl (cJ, 8, .inr (.inl bg))), (ax, .inl (cJ, 48, .inr (.inl tx))), (aw, .inl (cJ, 64, .inr (.inl wi))), (an, .inl (cJ, 8, .inr (.inl nw))), (av, .inl (cJ, 8, .inr (.inl vv))), (aa, .inl (cI, 8, .inl aw_))] sz)) (va_Qv (fun (_ : Unit) => True) (fun _ => bc_post (dC, dI) cI cJ (va_A [(h, .inr (5, [.int th, .ref af, .ref ak, .ref ar, .ref ag, .int le, .int lo, .int da, .ref ad, .ref ac, .ref ab, .int si, .ref ax, .ref aw, .ref an, .ref av, .ref aa])), (ac, .inl (cJ, 64, .inr (.inl kc))), (ab, .inl (cJ, 8, .inr (.inl bg))), (ax, .inl (cJ, 48, .inr (.inl tx))), (aw, .inl (cJ, 64, .inr (.inl wi))), (an, .inl (cJ, 8, .inr (.inl nw))), (av, .inl (cJ, 8, .inr (.inl vv))), (aa, .inl (cI, 8, .inl aw_))] sz) [(h, .inr (5, [.int th, .ref af, .ref ak, .ref ar, .ref ag, .int le, .int lo, .int da, .ref ad, .ref ac, .ref ab, .int (f_MO_hashText th le lo da si kc bg tx wi nw vv aw_).1, .ref ax, .ref aw, .ref an, .ref av, .ref aa])), (ac, .inl (cJ, 64, .inr (.inl kc))), (ab, .inl (cJ, 8, .inr (.inl bg))), (ax, .inl (cJ, 48, .inr (.inl (f_MO_hashText th le lo da si kc bg tx wi nw vv aw_).2.1))), (aw, .inl (cJ, 64, .inr (.inl (f_MO_hashText th le lo da si kc bg tx wi nw vv aw_).2.2.1))), (an, .inl (cJ, 8, .inr (.inl (f_MO_hashText th le lo da si kc bg tx wi nw vv aw_).2.2.2.1))), (av, .inl (cJ, 8, .inr (.inl (f_MO_hashText th le lo da si kc bg tx wi nw vv aw_).2.2.2.2.1))), (aa, .inl (cI, 8, .inl (f_MO_hashText th le lo da si kc bg tx wi nw vv aw_).2.2.2.2.2))]) (va_A [(h, .inr (5, [.int th, .ref af, .ref ak, .ref ar, .ref ag, .int le, .int lo, .int da, .ref ad, .ref ac, .ref ab, .int si, .ref ax, .ref aw, .ref an, .ref av, .ref aa])), (ac, .inl (cJ, 64, .inr (.inl kc))), (ab, .inl (cJ, 8, .inr (.inl bg))), (ax, .inl (cJ, 48, .inr (.inl tx))), (aw, .inl (cJ, 64, .inr (.inl wi))), (an, .inl (cJ, 8, .inr (.inl nw))), (av, .inl (cJ, 8, .inr (.inl vv))), (aa, .inl (cI, 8, .inl aw_))] sz)) 0 0 (va_A [(h, .inr (5, [.int th, .ref af, .ref ak, .ref ar, .ref ag, .int le, .int lo, .int da, .ref ad, .ref ac, .ref ab, .int si, .ref ax, .ref aw, .ref an, .ref av, .ref aa])), (ac, .inl (cJ, 64, .inr (.inl kc))), (ab, .inl (cJ, 8, .inr (.inl bg))), (ax, .inl (cJ, 48, .inr (.inl tx))), (aw, .inl (cJ, 64, .inr (.inl wi))), (an, .inl (cJ, 8, .inr (.inl nw))), (av, .inl (cJ, 8, .inr (.inl vv))), (aa, .inl (cI, 8, .inl aw_))] sz) := by
  refine Met.ofW (cc := prog_8_method_9_code) (maxL := 4) (ret := none) (by decide) rfl ?_
  intro p e s m args below meth c s₁ B hml hv
  obtain ⟨rfl, hsz, hP, hK, hD0, hE⟩ := hv
  have hx := B.exec
  have hb := B.bytes
  have hr := B.returns
  have hts : ∀ w ∈ bc_G, w.before ([.ref h] : List Value).toArray s = true := fun w h => atoms_spec (ws := ws_MO_hashText) B.pre w (List.mem_cons_of_mem _ h)
  have hown : s.vm.findClass "BootChainModel" = some m.cls := findClass_of_methodNamed B.named
  have hlocks := B.notSynchronized
  subst hsz
  have hD := hD0.self (sz := s.heap.size)
  generalize hAe : va_A [(h, .inr (5, [.int th, .ref af, .ref ak, .ref ar, .ref ag, .int le, .int lo, .int da, .ref ad, .ref ac, .ref ab, .int si, .ref ax, .ref aw, .ref an, .ref av, .ref aa])), (ac, .inl (cJ, 64, .inr (.inl kc))), (ab, .inl (cJ, 8, .inr (.inl bg))), (ax, .inl (cJ, 48, .inr (.inl tx))), (aw, .inl (cJ, 64, .inr (.inl wi))), (an, .inl (cJ, 8, .inr (.inl nw))), (av, .inl (cJ, 8, .inr (.inl vv))), (aa, .inl (cI, 8, .inl aw_))] s.heap.size = A at hD hE ⊢
  have hA : ∀ q : Nat, s.heap.size ≤ q → A q := fun q h => by rw [← hAe]; exact Or.inr h
  have hS : va_S A s.heap s.heap [] := va_S.rf
  have lp_96 : ∀ (n : Nat) (x3 : Int32) (y0_11 : Int32) (y3 : Nat → Int64) (y4 : Nat → Int64) (y5 : Nat → Int64) (y6 : Nat → Int64) (y7 : Nat → Int32) (H : Heap) (locs : List Loc) (ls : Array Slot), 0 ≤ x3 ∧ x3 ≤ 8 → ((8 : Int32).toInt - x3.toInt).toNat < n → lv_has ls 4 [(0, .ref h), (3, .int x3)] → va_P (dC, dI) classes [(h, .inr (5, [.int th, .ref af, .ref ak, .ref ar, .ref ag, .int le, .int lo, .int da, .ref ad, .ref ac, .ref ab, .int y0_11, .ref ax, .ref aw, .ref an, .ref av, .ref aa])), (ac, .inl (cJ, 64, .inr (.inl kc))), (ab, .inl (cJ, 8, .inr (.inl bg))), (ax, .inl (cJ, 48, .inr (.inl y3))), (aw, .inl (cJ, 64, .inr (.inl y4))), (an, .inl (cJ, 8, .inr (.inl y5))), (av, .inl (cJ, 8, .inr (.inl y6))), (aa, .inl (cI, 8, .inl y7))] H → va_D A [(h, .inr (5, [.int th, .ref af, .ref ak, .ref ar, .ref ag, .int le, .int lo, .int da, .ref ad, .ref ac, .ref ab, .int y0_11, .ref ax, .ref aw, .ref an, .ref av, .ref aa])), (ac, .inl (cJ, 64, .inr (.inl kc))), (ab, .inl (cJ, 8, .inr (.inl bg))), (ax, .inl (cJ, 48, .inr (.inl y3))), (aw, .inl (cJ, 64, .inr (.inl y4))), (an, .inl (cJ, 8, .inr (.inl y5))), (av, .inl (cJ, 8, .inr (.inl y6))), (aa, .inl (cI, 8, .inl y7))] → va_S A s.heap H locs → W p l e (headSpec ws_MO_hashText ({ frames := 2, cells := 0, slots := 0, locals := 61 } : Room)).room s m ([.ref h] : List Value).toArray below meth c H locs 0 0 (MQ below (va_Qv (fun (_ : Unit) => True) (fun _ => bc_post (dC, dI) cI cJ A [(h, .inr (5, [.int th, .ref af, .ref ak, .ref ar, .ref ag, .int le, .int lo, .int da, .ref ad, .ref ac, .ref ab, .int (f_MO_hashText_96 th le lo da si kc bg tx wi nw vv aw_ n x3 y0_11 y3 y4 y5 y6 y7).1, .ref ax, .ref aw, .ref an, .ref av, .ref aa])), (ac, .inl (cJ, 64, .inr (.inl kc))), (ab, .inl (cJ, 8, .inr (.inl bg))), (ax, .inl (cJ, 48, .inr (.inl (f_MO_hashText_96 th le lo da si kc bg tx wi nw vv aw_ n x3 y0_11 y3 y4 y5 y6 y7).2.1))), (aw, .inl (cJ, 64, .inr (.inl (f_MO_hashText_96 th le lo da si kc bg tx wi nw vv aw_ n x3 y0_11 y3 y4 y5 y6 y7).2.2.1))), (an, .inl (cJ, 8, .inr (.inl (f_MO_hashText_96 th le lo da si kc bg tx wi nw vv aw_ n x3 y0_11 y3 y4 y5 y6 y7).2.2.2.1))), (av, .inl (cJ, 8, .inr (.inl (f_MO_hashText_96 th le lo da si kc bg tx wi nw vv aw_ n x3 y0_11 y3 y4 y5 y6 y7).2.2.2.2.1))), (aa, .inl (cI, 8, .inl (f_MO_hashText_96 th le lo da si kc bg tx wi nw vv aw_ n x3 y0_11 y3 y4 y5 y6 y7).2.2.2.2.2))]) A) ([.ref h] : List Value).toArray s 0 0 A) (F0 m 96 ls []) := by
    intro n
    induction n with
    | zero => intro x3 y0_11 y3 y4 y5 y6 y7 H locs ls hI hm; exact absurd hm (Nat.not_lt_zero _)
    | succ n ih =>
      intro x3 y0_11 y3 y4 y5 y6 y7 H locs ls hI hm hl hP hD hS
      refine lv_iload_n hx hb d_MO_hashText_96 rfl (lv_at hl 1 rfl) ?_
      refine lv_bipush (v := 8) hx hb d_MO_hashText_97 (by decide) ?_
      refine lv_icmp_ge (tgt := 121) hx hb d_MO_hashText_99 (by decide) (fun h8 => ?_) (fun h8 => ?_)
      · refine lv_aload_n hx hb d_MO_hashText_121 rfl (lv_at hl 0 rfl) ?_
        refine lv_iconst (v := 0) hx hb d_MO_hashText_122 (by decide) ?_
        refine va_put (D := (dC, dI)) (ci := 5) (v := .int (0 : Int32)) (ty := .int) (C := R_MO) (T := F_MO) (N := 17) hx hb hts in_MO t_MO t_MO_ok n_MO hown hK hP hD hS 0 rfl rfl 11 (by decide) (hts _ gw_529) (fun _ h9 => h9) rfl (by decide +kernel) rfl rfl (Nat.le_of_ble_eq_true rfl) d_MO_hashText_123 (fun H locs hP hD hS => ?_)
        have hP : va_P (dC, dI) classes [(h, .inr (5, [.int th, .ref af, .ref ak, .ref ar, .ref ag, .int le, .int lo, .int da, .ref ad, .ref ac, .ref ab, .int (0 : Int32), .ref ax, .ref aw, .ref an, .ref av, .ref aa])), (ac, .inl (cJ, 64, .inr (.inl kc))), (ab, .inl (cJ, 8, .inr (.inl bg))), (ax, .inl (cJ, 48, .inr (.inl y3))), (aw, .inl (cJ, 64, .inr (.inl y4))), (an, .inl (cJ, 8, .inr (.inl y5))), (av, .inl (cJ, 8, .inr (.inl y6))), (aa, .inl (cI, 8, .inl y7))] H := hP
        have hD : va_D A [(h, .inr (5, [.int th, .ref af, .ref ak, .ref ar, .ref ag, .int le, .int lo, .int da, .ref ad, .ref ac, .ref ab, .int (0 : Int32), .ref ax, .ref aw, .ref an, .ref av, .ref aa])), (ac, .inl (cJ, 64, .inr (.inl kc))), (ab, .inl (cJ, 8, .inr (.inl bg))), (ax, .inl (cJ, 48, .inr (.inl y3))), (aw, .inl (cJ, 64, .inr (.inl y4))), (an, .inl (cJ, 8, .inr (.inl y5))), (av, .inl (cJ, 8, .inr (.inl y6))), (aa, .inl (cI, 8, .inl y7))] := hD
        have e0 : (f_MO_hashText_96 th le lo da si kc bg tx wi nw vv aw_ (n + 1) x3 y0_11 y3 y4 y5 y6 y7) = ((0 : Int32), y3, y4, y5, y6, y7) := by rw [f_MO_hashText_96, if_pos h8]
        rw [e0]
        exact W.vret hx hb hr (fun t ht hW => ⟨⟨(), rfl, trivial, by rw [ht]; exact hP, va_K.moved hW.alike hK, hD⟩, hS.F ht⟩) hS.2.2 d_MO_hashText_126
      · refine lv_aload_n hx hb d_MO_hashText_102 rfl (lv_at hl 0 rfl) ?_
        refine va_get (D := (dC, dI)) (ci := 5) (v := .ref aa) (C := R_MO) (T := F_MO) (N := 17) hx hb hts in_MO hown hK hP 0 rfl rfl 16 (by decide) (hts _ gw_534) (fun _ h9 => h9) rfl d_MO_hashText_103 ?_
        refine lv_iload_n hx hb d_MO_hashText_106 rfl (lv_at hl 1 rfl) ?_
        refine lv_aload_n hx hb d_MO_hashText_107 rfl (lv_at hl 0 rfl) ?_
        refine va_get (D := (dC, dI)) (ci := 5) (v := .ref an) (C := R_MO) (T := F_MO) (N := 17) hx hb hts in_MO hown hK hP 0 rfl rfl 14 (by decide) (hts _ gw_532) (fun _ h9 => h9) rfl d_MO_hashText_108 ?_
        refine lv_iload_n hx hb d_MO_hashText_111 rfl (lv_at hl 1 rfl) ?_
        refine va_lald hx hb hK hP 5 1 rfl rfl (by exact ix_sub 8 8 hI.1 (by assumption) rfl (by decide) (by decide)) d_MO_hashText_112 ?_
        refine lv_l2i (v := (((y5 (x3).toNatClampNeg)).toInt32)) hx hb d_MO_hashText_113 rfl ?_
        refine va_iast hx hb hK hP hD hS 7 0 rfl rfl (by exact ix_sub 8 8 hI.1 (by assumption) rfl (by decide) (by decide)) d_MO_hashText_114 (fun H locs hP hD hS => ?_)
        have hP : va_P (dC, dI) classes [(h, .inr (5, [.int th, .ref af, .ref ak, .ref ar, .ref ag, .int le, .int lo, .int da, .ref ad, .ref ac, .ref ab, .int y0_11, .ref ax, .ref aw, .ref an, .ref av, .ref aa])), (ac, .inl (cJ, 64, .inr (.inl kc))), (ab, .inl (cJ, 8, .inr (.inl bg))), (ax, .inl (cJ, 48, .inr (.inl y3))), (aw, .inl (cJ, 64, .inr (.inl y4))), (an, .inl (cJ, 8, .inr (.inl y5))), (av, .inl (cJ, 8, .inr (.inl y6))), (aa, .inl (cI, 8, .inl (upd y7 (x3).toNatClampNeg (((y5 (x3).toNatClampNeg)).toInt32))))] H := hP
        have hD : va_D A [(h, .inr (5, [.int th, .ref af, .ref ak, .ref ar, .ref ag, .int le, .int lo, .int da, .ref ad, .ref ac, .ref ab, .int y0_11, .ref ax, .ref aw, .ref an, .ref av, .ref aa])), (ac, .inl (cJ, 64, .inr (.inl kc))), (ab, .inl (cJ, 8, .inr (.inl bg))), (ax, .inl (cJ, 48, .inr (.inl y3))), (aw, .inl (cJ, 64, .inr (.inl y4))), (an, .inl (cJ, 8, .inr (.inl y5))), (av, .inl (cJ, 8, .inr (.inl y6))), (aa, .inl (cI, 8, .inl (upd y7 (x3).toNatClampNeg (((y5 (x3).toNatClampNeg)).toInt32))))] := hD
        refine lv_iinc (k := 1) (v := (x3 + (1 : Int32))) (lv' := [(3, .int (x3 + (1 : Int32))), (0, .ref h)]) hx hb d_MO_hashText_115 hl rfl rfl (by decide) rfl (fun ls hl => ?_)
        refine lv_goto (tgt := 96) hx hb d_MO_hashText_118 (by decide) ?_
        have e0 : (f_MO_hashText_96 th le lo da si kc bg tx wi nw vv aw_ (n + 1) x3 y0_11 y3 y4 y5 y6 y7) = f_MO_hashText_96 th le lo da si kc bg tx wi nw vv aw_ n (x3 + (1 : Int32)) y0_11 y3 y4 y5 y6 (upd y7 (x3).toNatClampNeg (((y5 (x3).toNatClampNeg)).toInt32)) := by rw [f_MO_hashText_96, if_neg h8]
        rw [e0]
        exact ih (x3 + (1 : Int32)) y0_11 y3 y4 y5 y6 (upd y7 (x3).toNatClampNeg (((y5 (x3).toNatClampNeg)).toInt32)) _ _ ls (lp_up hI.1 (by assumption)).1 (lp_ms hI.1 (by assumption) hm) (lv_sub hl [1, 0] rfl) hP hD hS
  have lp_75 : ∀ (n : Nat) (x3 : Int32) (y0_11 : Int32) (y3 : Nat → Int64) (y4 : Nat → Int64) (y5 : Nat → Int64) (y6 : Nat → Int64) (y7 : Nat → Int32) (H : Heap) (locs : List Loc) (ls : Array Slot), (x3 = 0 ∨ x3 = 16 ∨ x3 = 32) ∧ (y0_11 = 16 ∨ y0_11 = 32) → (y0_11.toInt - x3.toInt).toNat < n → lv_has ls 4 [(0, .ref h), (3, .int x3)] → va_P (dC, dI) classes [(h, .inr (5, [.int th, .ref af, .ref ak, .ref ar, .ref ag, .int le, .int lo, .int da, .ref ad, .ref ac, .ref ab, .int y0_11, .ref ax, .ref aw, .ref an, .ref av, .ref aa])), (ac, .inl (cJ, 64, .inr (.inl kc))), (ab, .inl (cJ, 8, .inr (.inl bg))), (ax, .inl (cJ, 48, .inr (.inl y3))), (aw, .inl (cJ, 64, .inr (.inl y4))), (an, .inl (cJ, 8, .inr (.inl y5))), (av, .inl (cJ, 8, .inr (.inl y6))), (aa, .inl (cI, 8, .inl y7))] H → va_D A [(h, .inr (5, [.int th, .ref af, .ref ak, .ref ar, .ref ag, .int le, .int lo, .int da, .ref ad, .ref ac, .ref ab, .int y0_11, .ref ax, .ref aw, .ref an, .ref av, .ref aa])), (ac, .inl (cJ, 64, .inr (.inl kc))), (ab, .inl (cJ, 8, .inr (.inl bg))), (ax, .inl (cJ, 48, .inr (.inl y3))), (aw, .inl (cJ, 64, .inr (.inl y4))), (an, .inl (cJ, 8, .inr (.inl y5))), (av, .inl (cJ, 8, .inr (.inl y6))), (aa, .inl (cI, 8, .inl y7))] → va_S A s.heap H locs → W p l e (headSpec ws_MO_hashText ({ frames := 2, cells := 0, slots := 0, locals := 61 } : Room)).room s m ([.ref h] : List Value).toArray below meth c H locs 0 0 (MQ below (va_Qv (fun (_ : Unit) => True) (fun _ => bc_post (dC, dI) cI cJ A [(h, .inr (5, [.int th, .ref af, .ref ak, .ref ar, .ref ag, .int le, .int lo, .int da, .ref ad, .ref ac, .ref ab, .int (f_MO_hashText_75 th le lo da si kc bg tx wi nw vv aw_ n x3 y0_11 y3 y4 y5 y6 y7).1, .ref ax, .ref aw, .ref an, .ref av, .ref aa])), (ac, .inl (cJ, 64, .inr (.inl kc))), (ab, .inl (cJ, 8, .inr (.inl bg))), (ax, .inl (cJ, 48, .inr (.inl (f_MO_hashText_75 th le lo da si kc bg tx wi nw vv aw_ n x3 y0_11 y3 y4 y5 y6 y7).2.1))), (aw, .inl (cJ, 64, .inr (.inl (f_MO_hashText_75 th le lo da si kc bg tx wi nw vv aw_ n x3 y0_11 y3 y4 y5 y6 y7).2.2.1))), (an, .inl (cJ, 8, .inr (.inl (f_MO_hashText_75 th le lo da si kc bg tx wi nw vv aw_ n x3 y0_11 y3 y4 y5 y6 y7).2.2.2.1))), (av, .inl (cJ, 8, .inr (.inl (f_MO_hashText_75 th le lo da si kc bg tx wi nw vv aw_ n x3 y0_11 y3 y4 y5 y6 y7).2.2.2.2.1))), (aa, .inl (cI, 8, .inl (f_MO_hashText_75 th le lo da si kc bg tx wi nw vv aw_ n x3 y0_11 y3 y4 y5 y6 y7).2.2.2.2.2))]) A) ([.ref h] : List Value).toArray s 0 0 A) (F0 m 75 ls []) := by
    intro n
    induction n with
    | zero => intro x3 y0_11 y3 y4 y5 y6 y7 H locs ls hI hm; exact absurd hm (Nat.not_lt_zero _)
    | succ n ih =>
      intro x3 y0_11 y3 y4 y5 y6 y7 H locs ls hI hm hl hP hD hS
      refine lv_iload_n hx hb d_MO_hashText_75 rfl (lv_at hl 1 rfl) ?_
      refine lv_aload_n hx hb d_MO_hashText_76 rfl (lv_at hl 0 rfl) ?_
      refine va_get (D := (dC, dI)) (ci := 5) (v := .int y0_11) (C := R_MO) (T := F_MO) (N := 17) hx hb hts in_MO hown hK hP 0 rfl rfl 11 (by decide) (hts _ gw_529) (fun _ h9 => h9) rfl d_MO_hashText_77 ?_
      refine lv_icmp_ge (tgt := 94) hx hb d_MO_hashText_80 (by decide) (fun h7 => ?_) (fun h7 => ?_)
      · refine lv_iconst (v := 0) hx hb d_MO_hashText_94 (by decide) ?_
        refine lv_istore_n (lv' := [(3, .int (0 : Int32)), (0, .ref h)]) hx hb d_MO_hashText_95 rfl hl (by decide) rfl (fun ls hl => ?_)
        have e0 : (f_MO_hashText_75 th le lo da si kc bg tx wi nw vv aw_ (n + 1) x3 y0_11 y3 y4 y5 y6 y7) = f_MO_hashText_96 th le lo da si kc bg tx wi nw vv aw_ 9 (0 : Int32) y0_11 y3 y4 y5 y6 y7 := by rw [f_MO_hashText_75, if_pos h7]
        rw [e0]
        exact lp_96 9 (0 : Int32) y0_11 y3 y4 y5 y6 y7 _ _ ls ⟨by decide, by decide⟩ (by decide) (lv_sub hl [1, 0] rfl) hP hD hS
      · refine lv_aload_n hx hb d_MO_hashText_83 rfl (lv_at hl 0 rfl) ?_
        refine lv_iload_n hx hb d_MO_hashText_84 rfl (lv_at hl 1 rfl) ?_
        have hPc := hP.sub (ws' := [(h, .inr (5, [.int th, .ref af, .ref ak, .ref ar, .ref ag, .int le, .int lo, .int da, .ref ad, .ref ac, .ref ab, .int y0_11, .ref ax, .ref aw, .ref an, .ref av, .ref aa])), (ac, .inl (cJ, 64, .inr (.inl kc))), (ax, .inl (cJ, 48, .inr (.inl y3))), (aw, .inl (cJ, 64, .inr (.inl y4))), (an, .inl (cJ, 8, .inr (.inl y5))), (av, .inl (cJ, 8, .inr (.inl y6)))]) [0, 1, 3, 4, 5, 6] rfl
        have hDc := hD.sub (ws' := [(h, .inr (5, [.int th, .ref af, .ref ak, .ref ar, .ref ag, .int le, .int lo, .int da, .ref ad, .ref ac, .ref ab, .int y0_11, .ref ax, .ref aw, .ref an, .ref av, .ref aa])), (ac, .inl (cJ, 64, .inr (.inl kc))), (ax, .inl (cJ, 48, .inr (.inl y3))), (aw, .inl (cJ, 64, .inr (.inl y4))), (an, .inl (cJ, 8, .inr (.inl y5))), (av, .inl (cJ, 8, .inr (.inl y6)))]) [0, 1, 3, 4, 5, 6] (by decide) rfl
        have hFc := va_free (wc := [(h, .inr (5, [.int th, .ref af, .ref ak, .ref ar, .ref ag, .int le, .int lo, .int da, .ref ad, .ref ac, .ref ab, .int y0_11, .ref ax, .ref aw, .ref an, .ref av, .ref aa])), (ac, .inl (cJ, 64, .inr (.inl kc))), (ax, .inl (cJ, 48, .inr (.inl y3))), (aw, .inl (cJ, 64, .inr (.inl y4))), (an, .inl (cJ, 8, .inr (.inl y5))), (av, .inl (cJ, 8, .inr (.inl y6)))]) hD hS hA [0, 1, 3, 4, 5, 6] rfl
        refine va_callv (va_runV (As := [.int x3]) (rest := []) ⟨hx, hb, hml, hown, hts⟩ (c_MO_mix l dC dI cI cJ h af ak ar ag ad ac ab ax aw an av aa _ x3 th le lo da y0_11 kc y3 y4 y5 y6 (bl_of hI.1 hI.2 (by assumption))) ⟨callB_of 1 hts (bc_good gw_606) rfl rfl rfl (hts _ gw_6) (hts _ gw_604) (by decide +kernel) ⟨Nat.le_of_ble_eq_true rfl, Nat.le_of_ble_eq_true rfl⟩, (hts _ gw_605), (hts _ gw_715)⟩ ⟨bc_blind, va_recv (q0 := 0) hK hP (q := (R_MO, F_MO, 17)) rfl rfl, fun U hU hW => ⟨rfl, bc_give hPc hDc hK hE hS hFc U hU hW⟩⟩ rfl rfl hl.1 rfl (lv_room (Nat.le_of_ble_eq_true rfl)) d_MO_hashText_85 ⟨Nat.le_of_ble_eq_true rfl, Nat.le_of_ble_eq_true rfl⟩) hS (fun q _ h => hFc q h) hFc (fun u t H9 locs ht hvm hp hB hz1 hk1 hS => ?_)
        obtain ⟨hP, hD⟩ := va_join (wr := [(ab, .inl (cJ, 8, .inr (.inl bg))), (aa, .inl (cI, 8, .inl y7))]) (w1 := [(h, .inr (5, [.int th, .ref af, .ref ak, .ref ar, .ref ag, .int le, .int lo, .int da, .ref ad, .ref ac, .ref ab, .int y0_11, .ref ax, .ref aw, .ref an, .ref av, .ref aa])), (ac, .inl (cJ, 64, .inr (.inl kc))), (ax, .inl (cJ, 48, .inr (.inl y3))), (aw, .inl (cJ, 64, .inr (.inl ((f_MO_mix x3 th le lo da y0_11 kc y3 y4 y5 y6).1)))), (an, .inl (cJ, 8, .inr (.inl ((f_MO_mix x3 th le lo da y0_11 kc y3 y4 y5 y6).2.1)))), (av, .inl (cJ, 8, .inr (.inl ((f_MO_mix x3 th le lo da y0_11 kc y3 y4 y5 y6).2.2))))]) hP hD [0, 1, 3, 4, 5, 6] [2, 7] rfl rfl (by decide) (by decide) hk1 hFc (ht ▸ hB.1) hB.2.2
        have hP := hP.sub (ws' := [(h, .inr (5, [.int th, .ref af, .ref ak, .ref ar, .ref ag, .int le, .int lo, .int da, .ref ad, .ref ac, .ref ab, .int y0_11, .ref ax, .ref aw, .ref an, .ref av, .ref aa])), (ac, .inl (cJ, 64, .inr (.inl kc))), (ab, .inl (cJ, 8, .inr (.inl bg))), (ax, .inl (cJ, 48, .inr (.inl y3))), (aw, .inl (cJ, 64, .inr (.inl ((f_MO_mix x3 th le lo da y0_11 kc y3 y4 y5 y6).1)))), (an, .inl (cJ, 8, .inr (.inl ((f_MO_mix x3 th le lo da y0_11 kc y3 y4 y5 y6).2.1)))), (av, .inl (cJ, 8, .inr (.inl ((f_MO_mix x3 th le lo da y0_11 kc y3 y4 y5 y6).2.2)))), (aa, .inl (cI, 8, .inl y7))]) [2, 3, 0, 4, 5, 6, 7, 1] rfl
        have hD := hD.sub (ws' := [(h, .inr (5, [.int th, .ref af, .ref ak, .ref ar, .ref ag, .int le, .int lo, .int da, .ref ad, .ref ac, .ref ab, .int y0_11, .ref ax, .ref aw, .ref an, .ref av, .ref aa])), (ac, .inl (cJ, 64, .inr (.inl kc))), (ab, .inl (cJ, 8, .inr (.inl bg))), (ax, .inl (cJ, 48, .inr (.inl y3))), (aw, .inl (cJ, 64, .inr (.inl ((f_MO_mix x3 th le lo da y0_11 kc y3 y4 y5 y6).1)))), (an, .inl (cJ, 8, .inr (.inl ((f_MO_mix x3 th le lo da y0_11 kc y3 y4 y5 y6).2.1)))), (av, .inl (cJ, 8, .inr (.inl ((f_MO_mix x3 th le lo da y0_11 kc y3 y4 y5 y6).2.2)))), (aa, .inl (cI, 8, .inl y7))]) [2, 3, 0, 4, 5, 6, 7, 1] (by decide) rfl
        generalize H9 = H at hP hS ⊢
        refine lv_iinc (k := 1) (v := (x3 + (16 : Int32))) (lv' := [(3, .int (x3 + (16 : Int32))), (0, .ref h)]) hx hb d_MO_hashText_88 hl rfl rfl (by decide) rfl (fun ls hl => ?_)
        refine lv_goto (tgt := 75) hx hb d_MO_hashText_91 (by decide) ?_
        have e0 : (f_MO_hashText_75 th le lo da si kc bg tx wi nw vv aw_ (n + 1) x3 y0_11 y3 y4 y5 y6 y7) = f_MO_hashText_75 th le lo da si kc bg tx wi nw vv aw_ n (x3 + (16 : Int32)) y0_11 y3 ((f_MO_mix x3 th le lo da y0_11 kc y3 y4 y5 y6).1) ((f_MO_mix x3 th le lo da y0_11 kc y3 y4 y5 y6).2.1) ((f_MO_mix x3 th le lo da y0_11 kc y3 y4 y5 y6).2.2) y7 := by rw [f_MO_hashText_75, if_neg h7]
        rw [e0]
        exact ih (x3 + (16 : Int32)) y0_11 y3 ((f_MO_mix x3 th le lo da y0_11 kc y3 y4 y5 y6).1) ((f_MO_mix x3 th le lo da y0_11 kc y3 y4 y5 y6).2.1) ((f_MO_mix x3 th le lo da y0_11 kc y3 y4 y5 y6).2.2) y7 _ _ ls ⟨bl_up hI.1 hI.2 (by assumption), hI.2⟩ (ms_blup hI.1 hI.2 (by assumption) hm) (lv_sub hl [1, 0] rfl) hP hD hS
  have lp_49 : ∀ (n : Nat) (x3 : Int32) (y0_11 : Int32) (y3 : Nat → Int64) (y4 : Nat → Int64) (y5 : Nat → Int64) (y6 : Nat → Int64) (y7 : Nat → Int32) (H : Heap) (locs : List Loc) (ls : Array Slot), (0 ≤ x3 ∧ x3 ≤ 8) ∧ (y0_11 = 16 ∨ y0_11 = 32) → ((8 : Int32).toInt - x3.toInt).toNat < n → lv_has ls 4 [(0, .ref h), (3, .int x3)] → va_P (dC, dI) classes [(h, .inr (5, [.int th, .ref af, .ref ak, .ref ar, .ref ag, .int le, .int lo, .int da, .ref ad, .ref ac, .ref ab, .int y0_11, .ref ax, .ref aw, .ref an, .ref av, .ref aa])), (ac, .inl (cJ, 64, .inr (.inl kc))), (ab, .inl (cJ, 8, .inr (.inl bg))), (ax, .inl (cJ, 48, .inr (.inl y3))), (aw, .inl (cJ, 64, .inr (.inl y4))), (an, .inl (cJ, 8, .inr (.inl y5))), (av, .inl (cJ, 8, .inr (.inl y6))), (aa, .inl (cI, 8, .inl y7))] H → va_D A [(h, .inr (5, [.int th, .ref af, .ref ak, .ref ar, .ref ag, .int le, .int lo, .int da, .ref ad, .ref ac, .ref ab, .int y0_11, .ref ax, .ref aw, .ref an, .ref av, .ref aa])), (ac, .inl (cJ, 64, .inr (.inl kc))), (ab, .inl (cJ, 8, .inr (.inl bg))), (ax, .inl (cJ, 48, .inr (.inl y3))), (aw, .inl (cJ, 64, .inr (.inl y4))), (an, .inl (cJ, 8, .inr (.inl y5))), (av, .inl (cJ, 8, .inr (.inl y6))), (aa, .inl (cI, 8, .inl y7))] → va_S A s.heap H locs → W p l e (headSpec ws_MO_hashText ({ frames := 2, cells := 0, slots := 0, locals := 61 } : Room)).room s m ([.ref h] : List Value).toArray below meth c H locs 0 0 (MQ below (va_Qv (fun (_ : Unit) => True) (fun _ => bc_post (dC, dI) cI cJ A [(h, .inr (5, [.int th, .ref af, .ref ak, .ref ar, .ref ag, .int le, .int lo, .int da, .ref ad, .ref ac, .ref ab, .int (f_MO_hashText_49 th le lo da si kc bg tx wi nw vv aw_ n x3 y0_11 y3 y4 y5 y6 y7).1, .ref ax, .ref aw, .ref an, .ref av, .ref aa])), (ac, .inl (cJ, 64, .inr (.inl kc))), (ab, .inl (cJ, 8, .inr (.inl bg))), (ax, .inl (cJ, 48, .inr (.inl (f_MO_hashText_49 th le lo da si kc bg tx wi nw vv aw_ n x3 y0_11 y3 y4 y5 y6 y7).2.1))), (aw, .inl (cJ, 64, .inr (.inl (f_MO_hashText_49 th le lo da si kc bg tx wi nw vv aw_ n x3 y0_11 y3 y4 y5 y6 y7).2.2.1))), (an, .inl (cJ, 8, .inr (.inl (f_MO_hashText_49 th le lo da si kc bg tx wi nw vv aw_ n x3 y0_11 y3 y4 y5 y6 y7).2.2.2.1))), (av, .inl (cJ, 8, .inr (.inl (f_MO_hashText_49 th le lo da si kc bg tx wi nw vv aw_ n x3 y0_11 y3 y4 y5 y6 y7).2.2.2.2.1))), (aa, .inl (cI, 8, .inl (f_MO_hashText_49 th le lo da si kc bg tx wi nw vv aw_ n x3 y0_11 y3 y4 y5 y6 y7).2.2.2.2.2))]) A) ([.ref h] : List Value).toArray s 0 0 A) (F0 m 49 ls []) := by
    intro n
    induction n with
    | zero => intro x3 y0_11 y3 y4 y5 y6 y7 H locs ls hI hm; exact absurd hm (Nat.not_lt_zero _)
    | succ n ih =>
      intro x3 y0_11 y3 y4 y5 y6 y7 H locs ls hI hm hl hP hD hS
      refine lv_iload_n hx hb d_MO_hashText_49 rfl (lv_at hl 1 rfl) ?_
      refine lv_bipush (v := 8) hx hb d_MO_hashText_50 (by decide) ?_
      refine lv_icmp_ge (tgt := 73) hx hb d_MO_hashText_52 (by decide) (fun h6 => ?_) (fun h6 => ?_)
      · refine lv_iconst (v := 0) hx hb d_MO_hashText_73 (by decide) ?_
        refine lv_istore_n (lv' := [(3, .int (0 : Int32)), (0, .ref h)]) hx hb d_MO_hashText_74 rfl hl (by decide) rfl (fun ls hl => ?_)
        have e0 : (f_MO_hashText_49 th le lo da si kc bg tx wi nw vv aw_ (n + 1) x3 y0_11 y3 y4 y5 y6 y7) = f_MO_hashText_75 th le lo da si kc bg tx wi nw vv aw_ 33 (0 : Int32) y0_11 y3 y4 y5 y6 y7 := by rw [f_MO_hashText_49, if_pos h6]
        rw [e0]
        exact lp_75 33 (0 : Int32) y0_11 y3 y4 y5 y6 y7 _ _ ls ⟨Or.inl rfl, hI.2⟩ (ms_bl hI.2) (lv_sub hl [1, 0] rfl) hP hD hS
      · refine lv_aload_n hx hb d_MO_hashText_55 rfl (lv_at hl 0 rfl) ?_
        refine va_get (D := (dC, dI)) (ci := 5) (v := .ref an) (C := R_MO) (T := F_MO) (N := 17) hx hb hts in_MO hown hK hP 0 rfl rfl 14 (by decide) (hts _ gw_532) (fun _ h9 => h9) rfl d_MO_hashText_56 ?_
        refine lv_iload_n hx hb d_MO_hashText_59 rfl (lv_at hl 1 rfl) ?_
        refine lv_aload_n hx hb d_MO_hashText_60 rfl (lv_at hl 0 rfl) ?_
        refine va_get (D := (dC, dI)) (ci := 5) (v := .ref ab) (C := R_MO) (T := F_MO) (N := 17) hx hb hts in_MO hown hK hP 0 rfl rfl 10 (by decide) (hts _ gw_528) (fun _ h9 => h9) rfl d_MO_hashText_61 ?_
        refine lv_iload_n hx hb d_MO_hashText_64 rfl (lv_at hl 1 rfl) ?_
        refine va_lald hx hb hK hP 2 1 rfl rfl (by exact ix_sub 8 8 hI.1.1 (by assumption) rfl (by decide) (by decide)) d_MO_hashText_65 ?_
        refine va_last hx hb hK hP hD hS 5 1 rfl rfl (by exact ix_sub 8 8 hI.1.1 (by assumption) rfl (by decide) (by decide)) d_MO_hashText_66 (fun H locs hP hD hS => ?_)
        have hP : va_P (dC, dI) classes [(h, .inr (5, [.int th, .ref af, .ref ak, .ref ar, .ref ag, .int le, .int lo, .int da, .ref ad, .ref ac, .ref ab, .int y0_11, .ref ax, .ref aw, .ref an, .ref av, .ref aa])), (ac, .inl (cJ, 64, .inr (.inl kc))), (ab, .inl (cJ, 8, .inr (.inl bg))), (ax, .inl (cJ, 48, .inr (.inl y3))), (aw, .inl (cJ, 64, .inr (.inl y4))), (an, .inl (cJ, 8, .inr (.inl (vp_updL y5 (x3).toNatClampNeg (bg (x3).toNatClampNeg))))), (av, .inl (cJ, 8, .inr (.inl y6))), (aa, .inl (cI, 8, .inl y7))] H := hP
        have hD : va_D A [(h, .inr (5, [.int th, .ref af, .ref ak, .ref ar, .ref ag, .int le, .int lo, .int da, .ref ad, .ref ac, .ref ab, .int y0_11, .ref ax, .ref aw, .ref an, .ref av, .ref aa])), (ac, .inl (cJ, 64, .inr (.inl kc))), (ab, .inl (cJ, 8, .inr (.inl bg))), (ax, .inl (cJ, 48, .inr (.inl y3))), (aw, .inl (cJ, 64, .inr (.inl y4))), (an, .inl (cJ, 8, .inr (.inl (vp_updL y5 (x3).toNatClampNeg (bg (x3).toNatClampNeg))))), (av, .inl (cJ, 8, .inr (.inl y6))), (aa, .inl (cI, 8, .inl y7))] := hD
        refine lv_iinc (k := 1) (v := (x3 + (1 : Int32))) (lv' := [(3, .int (x3 + (1 : Int32))), (0, .ref h)]) hx hb d_MO_hashText_67 hl rfl rfl (by decide) rfl (fun ls hl => ?_)
        refine lv_goto (tgt := 49) hx hb d_MO_hashText_70 (by decide) ?_
        have e0 : (f_MO_hashText_49 th le lo da si kc bg tx wi nw vv aw_ (n + 1) x3 y0_11 y3 y4 y5 y6 y7) = f_MO_hashText_49 th le lo da si kc bg tx wi nw vv aw_ n (x3 + (1 : Int32)) y0_11 y3 y4 (vp_updL y5 (x3).toNatClampNeg (bg (x3).toNatClampNeg)) y6 y7 := by rw [f_MO_hashText_49, if_neg h6]
        rw [e0]
        exact ih (x3 + (1 : Int32)) y0_11 y3 y4 (vp_updL y5 (x3).toNatClampNeg (bg (x3).toNatClampNeg)) y6 y7 _ _ ls ⟨(lp_up hI.1.1 (by assumption)).1, hI.2⟩ (lp_ms hI.1.1 (by assumption) hm) (lv_sub hl [1, 0] rfl) hP hD hS
  have lp_16 : ∀ (n : Nat) (x1 : Int64) (y0_11 : Int32) (y3 : Nat → Int64) (y4 : Nat → Int64) (y5 : Nat → Int64) (y6 : Nat → Int64) (y7 : Nat → Int32) (H : Heap) (locs : List Loc) (ls : Array Slot), 0 ≤ y0_11 ∧ y0_11 ≤ 30 → ((30 : Int32).toInt - y0_11.toInt).toNat < n → lv_has ls 4 [(0, .ref h), (1, .long x1)] → va_P (dC, dI) classes [(h, .inr (5, [.int th, .ref af, .ref ak, .ref ar, .ref ag, .int le, .int lo, .int da, .ref ad, .ref ac, .ref ab, .int y0_11, .ref ax, .ref aw, .ref an, .ref av, .ref aa])), (ac, .inl (cJ, 64, .inr (.inl kc))), (ab, .inl (cJ, 8, .inr (.inl bg))), (ax, .inl (cJ, 48, .inr (.inl y3))), (aw, .inl (cJ, 64, .inr (.inl y4))), (an, .inl (cJ, 8, .inr (.inl y5))), (av, .inl (cJ, 8, .inr (.inl y6))), (aa, .inl (cI, 8, .inl y7))] H → va_D A [(h, .inr (5, [.int th, .ref af, .ref ak, .ref ar, .ref ag, .int le, .int lo, .int da, .ref ad, .ref ac, .ref ab, .int y0_11, .ref ax, .ref aw, .ref an, .ref av, .ref aa])), (ac, .inl (cJ, 64, .inr (.inl kc))), (ab, .inl (cJ, 8, .inr (.inl bg))), (ax, .inl (cJ, 48, .inr (.inl y3))), (aw, .inl (cJ, 64, .inr (.inl y4))), (an, .inl (cJ, 8, .inr (.inl y5))), (av, .inl (cJ, 8, .inr (.inl y6))), (aa, .inl (cI, 8, .inl y7))] → va_S A s.heap H locs → W p l e (headSpec ws_MO_hashText ({ frames := 2, cells := 0, slots := 0, locals := 61 } : Room)).room s m ([.ref h] : List Value).toArray below meth c H locs 0 0 (MQ below (va_Qv (fun (_ : Unit) => True) (fun _ => bc_post (dC, dI) cI cJ A [(h, .inr (5, [.int th, .ref af, .ref ak, .ref ar, .ref ag, .int le, .int lo, .int da, .ref ad, .ref ac, .ref ab, .int (f_MO_hashText_16 th le lo da si kc bg tx wi nw vv aw_ n x1 y0_11 y3 y4 y5 y6 y7).1, .ref ax, .ref aw, .ref an, .ref av, .ref aa])), (ac, .inl (cJ, 64, .inr (.inl kc))), (ab, .inl (cJ, 8, .inr (.inl bg))), (ax, .inl (cJ, 48, .inr (.inl (f_MO_hashText_16 th le lo da si kc bg tx wi nw vv aw_ n x1 y0_11 y3 y4 y5 y6 y7).2.1))), (aw, .inl (cJ, 64, .inr (.inl (f_MO_hashText_16 th le lo da si kc bg tx wi nw vv aw_ n x1 y0_11 y3 y4 y5 y6 y7).2.2.1))), (an, .inl (cJ, 8, .inr (.inl (f_MO_hashText_16 th le lo da si kc bg tx wi nw vv aw_ n x1 y0_11 y3 y4 y5 y6 y7).2.2.2.1))), (av, .inl (cJ, 8, .inr (.inl (f_MO_hashText_16 th le lo da si kc bg tx wi nw vv aw_ n x1 y0_11 y3 y4 y5 y6 y7).2.2.2.2.1))), (aa, .inl (cI, 8, .inl (f_MO_hashText_16 th le lo da si kc bg tx wi nw vv aw_ n x1 y0_11 y3 y4 y5 y6 y7).2.2.2.2.2))]) A) ([.ref h] : List Value).toArray s 0 0 A) (F0 m 16 ls []) := by
    intro n
    induction n with
    | zero => intro x1 y0_11 y3 y4 y5 y6 y7 H locs ls hI hm; exact absurd hm (Nat.not_lt_zero _)
    | succ n ih =>
      intro x1 y0_11 y3 y4 y5 y6 y7 H locs ls hI hm hl hP hD hS
      refine lv_aload_n hx hb d_MO_hashText_16 rfl (lv_at hl 0 rfl) ?_
      refine va_get (D := (dC, dI)) (ci := 5) (v := .int y0_11) (C := R_MO) (T := F_MO) (N := 17) hx hb hts in_MO hown hK hP 0 rfl rfl 11 (by decide) (hts _ gw_529) (fun _ h9 => h9) rfl d_MO_hashText_17 ?_
      refine lv_bipush (v := 16) hx hb d_MO_hashText_20 (by decide) ?_
      refine lv_irem hx hb d_MO_hashText_22 (by decide) ?_
      refine lv_bipush (v := 14) hx hb d_MO_hashText_23 (by decide) ?_
      refine lv_icmp_eq (tgt := 36) hx hb d_MO_hashText_25 (by decide) (fun h5 => ?_) (fun h5 => ?_)
      · refine lv_aload_n hx hb d_MO_hashText_36 rfl (lv_at hl 0 rfl) ?_
        refine lv_iconst (v := 0) hx hb d_MO_hashText_37 (by decide) ?_
        have hPc := hP.sub (ws' := [(h, .inr (5, [.int th, .ref af, .ref ak, .ref ar, .ref ag, .int le, .int lo, .int da, .ref ad, .ref ac, .ref ab, .int y0_11, .ref ax, .ref aw, .ref an, .ref av, .ref aa])), (ax, .inl (cJ, 48, .inr (.inl y3)))]) [0, 3] rfl
        have hDc := hD.sub (ws' := [(h, .inr (5, [.int th, .ref af, .ref ak, .ref ar, .ref ag, .int le, .int lo, .int da, .ref ad, .ref ac, .ref ab, .int y0_11, .ref ax, .ref aw, .ref an, .ref av, .ref aa])), (ax, .inl (cJ, 48, .inr (.inl y3)))]) [0, 3] (by decide) rfl
        have hFc := va_free (wc := [(h, .inr (5, [.int th, .ref af, .ref ak, .ref ar, .ref ag, .int le, .int lo, .int da, .ref ad, .ref ac, .ref ab, .int y0_11, .ref ax, .ref aw, .ref an, .ref av, .ref aa])), (ax, .inl (cJ, 48, .inr (.inl y3)))]) hD hS hA [0, 3] rfl
        refine va_callv (va_runV (As := [.int (0 : Int32)]) (rest := []) ⟨hx, hb, hml, hown, hts⟩ (c_MO_add l dC dI cI cJ h af ak ar ag ad ac ab ax aw an av aa _ (0 : Int32) th le lo da y0_11 y3 (ix_30 hI)) ⟨callB_of 1 hts (bc_good gw_591) rfl rfl rfl (hts _ gw_6) (hts _ gw_589) (by decide +kernel) ⟨Nat.le_of_ble_eq_true rfl, Nat.le_of_ble_eq_true rfl⟩, (hts _ gw_590), (hts _ gw_711)⟩ ⟨bc_blind, va_recv (q0 := 0) hK hP (q := (R_MO, F_MO, 17)) rfl rfl, fun U hU hW => ⟨rfl, bc_give hPc hDc hK hE hS hFc U hU hW⟩⟩ rfl rfl hl.1 rfl (lv_room (Nat.le_of_ble_eq_true rfl)) d_MO_hashText_38 ⟨Nat.le_of_ble_eq_true rfl, Nat.le_of_ble_eq_true rfl⟩) hS (fun q _ h => hFc q h) hFc (fun u t H9 locs ht hvm hp hB hz1 hk1 hS => ?_)
        obtain ⟨hP, hD⟩ := va_join (wr := [(ac, .inl (cJ, 64, .inr (.inl kc))), (ab, .inl (cJ, 8, .inr (.inl bg))), (aw, .inl (cJ, 64, .inr (.inl y4))), (an, .inl (cJ, 8, .inr (.inl y5))), (av, .inl (cJ, 8, .inr (.inl y6))), (aa, .inl (cI, 8, .inl y7))]) (w1 := [(h, .inr (5, [.int th, .ref af, .ref ak, .ref ar, .ref ag, .int le, .int lo, .int da, .ref ad, .ref ac, .ref ab, .int ((f_MO_add (0 : Int32) th le lo da y0_11 y3).1), .ref ax, .ref aw, .ref an, .ref av, .ref aa])), (ax, .inl (cJ, 48, .inr (.inl ((f_MO_add (0 : Int32) th le lo da y0_11 y3).2))))]) hP hD [0, 3] [1, 2, 4, 5, 6, 7] rfl rfl (by decide) (by decide) hk1 hFc (ht ▸ hB.1) hB.2.2
        have hP := hP.sub (ws' := [(h, .inr (5, [.int th, .ref af, .ref ak, .ref ar, .ref ag, .int le, .int lo, .int da, .ref ad, .ref ac, .ref ab, .int ((f_MO_add (0 : Int32) th le lo da y0_11 y3).1), .ref ax, .ref aw, .ref an, .ref av, .ref aa])), (ac, .inl (cJ, 64, .inr (.inl kc))), (ab, .inl (cJ, 8, .inr (.inl bg))), (ax, .inl (cJ, 48, .inr (.inl ((f_MO_add (0 : Int32) th le lo da y0_11 y3).2)))), (aw, .inl (cJ, 64, .inr (.inl y4))), (an, .inl (cJ, 8, .inr (.inl y5))), (av, .inl (cJ, 8, .inr (.inl y6))), (aa, .inl (cI, 8, .inl y7))]) [6, 0, 1, 7, 2, 3, 4, 5] rfl
        have hD := hD.sub (ws' := [(h, .inr (5, [.int th, .ref af, .ref ak, .ref ar, .ref ag, .int le, .int lo, .int da, .ref ad, .ref ac, .ref ab, .int ((f_MO_add (0 : Int32) th le lo da y0_11 y3).1), .ref ax, .ref aw, .ref an, .ref av, .ref aa])), (ac, .inl (cJ, 64, .inr (.inl kc))), (ab, .inl (cJ, 8, .inr (.inl bg))), (ax, .inl (cJ, 48, .inr (.inl ((f_MO_add (0 : Int32) th le lo da y0_11 y3).2)))), (aw, .inl (cJ, 64, .inr (.inl y4))), (an, .inl (cJ, 8, .inr (.inl y5))), (av, .inl (cJ, 8, .inr (.inl y6))), (aa, .inl (cI, 8, .inl y7))]) [6, 0, 1, 7, 2, 3, 4, 5] (by decide) rfl
        generalize H9 = H at hP hS ⊢
        refine lv_aload_n hx hb d_MO_hashText_41 rfl (lv_at hl 0 rfl) ?_
        refine lv_lload_n hx hb d_MO_hashText_42 rfl (lv_at hl 1 rfl) ?_
        refine lv_l2i (v := ((x1).toInt32)) hx hb d_MO_hashText_43 rfl ?_
        have hPc := hP.sub (ws' := [(h, .inr (5, [.int th, .ref af, .ref ak, .ref ar, .ref ag, .int le, .int lo, .int da, .ref ad, .ref ac, .ref ab, .int ((f_MO_add (0 : Int32) th le lo da y0_11 y3).1), .ref ax, .ref aw, .ref an, .ref av, .ref aa])), (ax, .inl (cJ, 48, .inr (.inl ((f_MO_add (0 : Int32) th le lo da y0_11 y3).2))))]) [0, 3] rfl
        have hDc := hD.sub (ws' := [(h, .inr (5, [.int th, .ref af, .ref ak, .ref ar, .ref ag, .int le, .int lo, .int da, .ref ad, .ref ac, .ref ab, .int ((f_MO_add (0 : Int32) th le lo da y0_11 y3).1), .ref ax, .ref aw, .ref an, .ref av, .ref aa])), (ax, .inl (cJ, 48, .inr (.inl ((f_MO_add (0 : Int32) th le lo da y0_11 y3).2))))]) [0, 3] (by decide) rfl
        have hFc := va_free (wc := [(h, .inr (5, [.int th, .ref af, .ref ak, .ref ar, .ref ag, .int le, .int lo, .int da, .ref ad, .ref ac, .ref ab, .int ((f_MO_add (0 : Int32) th le lo da y0_11 y3).1), .ref ax, .ref aw, .ref an, .ref av, .ref aa])), (ax, .inl (cJ, 48, .inr (.inl ((f_MO_add (0 : Int32) th le lo da y0_11 y3).2))))]) hD hS hA [0, 3] rfl
        refine va_callv (va_runV (As := [.int ((x1).toInt32)]) (rest := []) ⟨hx, hb, hml, hown, hts⟩ (c_MO_add l dC dI cI cJ h af ak ar ag ad ac ab ax aw an av aa _ ((x1).toInt32) th le lo da ((f_MO_add (0 : Int32) th le lo da y0_11 y3).1) ((f_MO_add (0 : Int32) th le lo da y0_11 y3).2) (ix_31 hI)) ⟨callB_of 1 hts (bc_good gw_591) rfl rfl rfl (hts _ gw_6) (hts _ gw_589) (by decide +kernel) ⟨Nat.le_of_ble_eq_true rfl, Nat.le_of_ble_eq_true rfl⟩, (hts _ gw_590), (hts _ gw_711)⟩ ⟨bc_blind, va_recv (q0 := 0) hK hP (q := (R_MO, F_MO, 17)) rfl rfl, fun U hU hW => ⟨rfl, bc_give hPc hDc hK hE hS hFc U hU hW⟩⟩ rfl rfl hl.1 rfl (lv_room (Nat.le_of_ble_eq_true rfl)) d_MO_hashText_44 ⟨Nat.le_of_ble_eq_true rfl, Nat.le_of_ble_eq_true rfl⟩) hS (fun q _ h => hFc q h) hFc (fun u t H9 locs ht hvm hp hB hz1 hk1 hS => ?_)
        obtain ⟨hP, hD⟩ := va_join (wr := [(ac, .inl (cJ, 64, .inr (.inl kc))), (ab, .inl (cJ, 8, .inr (.inl bg))), (aw, .inl (cJ, 64, .inr (.inl y4))), (an, .inl (cJ, 8, .inr (.inl y5))), (av, .inl (cJ, 8, .inr (.inl y6))), (aa, .inl (cI, 8, .inl y7))]) (w1 := [(h, .inr (5, [.int th, .ref af, .ref ak, .ref ar, .ref ag, .int le, .int lo, .int da, .ref ad, .ref ac, .ref ab, .int ((f_MO_add ((x1).toInt32) th le lo da ((f_MO_add (0 : Int32) th le lo da y0_11 y3).1) ((f_MO_add (0 : Int32) th le lo da y0_11 y3).2)).1), .ref ax, .ref aw, .ref an, .ref av, .ref aa])), (ax, .inl (cJ, 48, .inr (.inl ((f_MO_add ((x1).toInt32) th le lo da ((f_MO_add (0 : Int32) th le lo da y0_11 y3).1) ((f_MO_add (0 : Int32) th le lo da y0_11 y3).2)).2))))]) hP hD [0, 3] [1, 2, 4, 5, 6, 7] rfl rfl (by decide) (by decide) hk1 hFc (ht ▸ hB.1) hB.2.2
        have hP := hP.sub (ws' := [(h, .inr (5, [.int th, .ref af, .ref ak, .ref ar, .ref ag, .int le, .int lo, .int da, .ref ad, .ref ac, .ref ab, .int ((f_MO_add ((x1).toInt32) th le lo da ((f_MO_add (0 : Int32) th le lo da y0_11 y3).1) ((f_MO_add (0 : Int32) th le lo da y0_11 y3).2)).1), .ref ax, .ref aw, .ref an, .ref av, .ref aa])), (ac, .inl (cJ, 64, .inr (.inl kc))), (ab, .inl (cJ, 8, .inr (.inl bg))), (ax, .inl (cJ, 48, .inr (.inl ((f_MO_add ((x1).toInt32) th le lo da ((f_MO_add (0 : Int32) th le lo da y0_11 y3).1) ((f_MO_add (0 : Int32) th le lo da y0_11 y3).2)).2)))), (aw, .inl (cJ, 64, .inr (.inl y4))), (an, .inl (cJ, 8, .inr (.inl y5))), (av, .inl (cJ, 8, .inr (.inl y6))), (aa, .inl (cI, 8, .inl y7))]) [6, 0, 1, 7, 2, 3, 4, 5] rfl
        have hD := hD.sub (ws' := [(h, .inr (5, [.int th, .ref af, .ref ak, .ref ar, .ref ag, .int le, .int lo, .int da, .ref ad, .ref ac, .ref ab, .int ((f_MO_add ((x1).toInt32) th le lo da ((f_MO_add (0 : Int32) th le lo da y0_11 y3).1) ((f_MO_add (0 : Int32) th le lo da y0_11 y3).2)).1), .ref ax, .ref aw, .ref an, .ref av, .ref aa])), (ac, .inl (cJ, 64, .inr (.inl kc))), (ab, .inl (cJ, 8, .inr (.inl bg))), (ax, .inl (cJ, 48, .inr (.inl ((f_MO_add ((x1).toInt32) th le lo da ((f_MO_add (0 : Int32) th le lo da y0_11 y3).1) ((f_MO_add (0 : Int32) th le lo da y0_11 y3).2)).2)))), (aw, .inl (cJ, 64, .inr (.inl y4))), (an, .inl (cJ, 8, .inr (.inl y5))), (av, .inl (cJ, 8, .inr (.inl y6))), (aa, .inl (cI, 8, .inl y7))]) [6, 0, 1, 7, 2, 3, 4, 5] (by decide) rfl
        generalize H9 = H at hP hS ⊢
        refine lv_iconst (v := 0) hx hb d_MO_hashText_47 (by decide) ?_
        refine lv_istore_n (lv' := [(3, .int (0 : Int32)), (0, .ref h), (1, .long x1)]) hx hb d_MO_hashText_48 rfl hl (by decide) rfl (fun ls hl => ?_)
        have e0 : (f_MO_hashText_16 th le lo da si kc bg tx wi nw vv aw_ (n + 1) x1 y0_11 y3 y4 y5 y6 y7) = f_MO_hashText_49 th le lo da si kc bg tx wi nw vv aw_ 9 (0 : Int32) ((f_MO_add ((x1).toInt32) th le lo da ((f_MO_add (0 : Int32) th le lo da y0_11 y3).1) ((f_MO_add (0 : Int32) th le lo da y0_11 y3).2)).1) ((f_MO_add ((x1).toInt32) th le lo da ((f_MO_add (0 : Int32) th le lo da y0_11 y3).1) ((f_MO_add (0 : Int32) th le lo da y0_11 y3).2)).2) y4 y5 y6 y7 := by rw [f_MO_hashText_16, if_pos h5]
        rw [e0]
        exact lp_49 9 (0 : Int32) ((f_MO_add ((x1).toInt32) th le lo da ((f_MO_add (0 : Int32) th le lo da y0_11 y3).1) ((f_MO_add (0 : Int32) th le lo da y0_11 y3).2)).1) ((f_MO_add ((x1).toInt32) th le lo da ((f_MO_add (0 : Int32) th le lo da y0_11 y3).1) ((f_MO_add (0 : Int32) th le lo da y0_11 y3).2)).2) y4 y5 y6 y7 _ _ ls ⟨⟨by decide, by decide⟩, sz_of hI (by assumption)⟩ (by decide) (lv_sub hl [1, 0] rfl) hP hD hS
      · refine lv_aload_n hx hb d_MO_hashText_28 rfl (lv_at hl 0 rfl) ?_
        refine lv_iconst (v := 0) hx hb d_MO_hashText_29 (by decide) ?_
        have hPc := hP.sub (ws' := [(h, .inr (5, [.int th, .ref af, .ref ak, .ref ar, .ref ag, .int le, .int lo, .int da, .ref ad, .ref ac, .ref ab, .int y0_11, .ref ax, .ref aw, .ref an, .ref av, .ref aa])), (ax, .inl (cJ, 48, .inr (.inl y3)))]) [0, 3] rfl
        have hDc := hD.sub (ws' := [(h, .inr (5, [.int th, .ref af, .ref ak, .ref ar, .ref ag, .int le, .int lo, .int da, .ref ad, .ref ac, .ref ab, .int y0_11, .ref ax, .ref aw, .ref an, .ref av, .ref aa])), (ax, .inl (cJ, 48, .inr (.inl y3)))]) [0, 3] (by decide) rfl
        have hFc := va_free (wc := [(h, .inr (5, [.int th, .ref af, .ref ak, .ref ar, .ref ag, .int le, .int lo, .int da, .ref ad, .ref ac, .ref ab, .int y0_11, .ref ax, .ref aw, .ref an, .ref av, .ref aa])), (ax, .inl (cJ, 48, .inr (.inl y3)))]) hD hS hA [0, 3] rfl
        refine va_callv (va_runV (As := [.int (0 : Int32)]) (rest := []) ⟨hx, hb, hml, hown, hts⟩ (c_MO_add l dC dI cI cJ h af ak ar ag ad ac ab ax aw an av aa _ (0 : Int32) th le lo da y0_11 y3 (ix_30 hI)) ⟨callB_of 1 hts (bc_good gw_591) rfl rfl rfl (hts _ gw_6) (hts _ gw_589) (by decide +kernel) ⟨Nat.le_of_ble_eq_true rfl, Nat.le_of_ble_eq_true rfl⟩, (hts _ gw_590), (hts _ gw_711)⟩ ⟨bc_blind, va_recv (q0 := 0) hK hP (q := (R_MO, F_MO, 17)) rfl rfl, fun U hU hW => ⟨rfl, bc_give hPc hDc hK hE hS hFc U hU hW⟩⟩ rfl rfl hl.1 rfl (lv_room (Nat.le_of_ble_eq_true rfl)) d_MO_hashText_30 ⟨Nat.le_of_ble_eq_true rfl, Nat.le_of_ble_eq_true rfl⟩) hS (fun q _ h => hFc q h) hFc (fun u t H9 locs ht hvm hp hB hz1 hk1 hS => ?_)
        obtain ⟨hP, hD⟩ := va_join (wr := [(ac, .inl (cJ, 64, .inr (.inl kc))), (ab, .inl (cJ, 8, .inr (.inl bg))), (aw, .inl (cJ, 64, .inr (.inl y4))), (an, .inl (cJ, 8, .inr (.inl y5))), (av, .inl (cJ, 8, .inr (.inl y6))), (aa, .inl (cI, 8, .inl y7))]) (w1 := [(h, .inr (5, [.int th, .ref af, .ref ak, .ref ar, .ref ag, .int le, .int lo, .int da, .ref ad, .ref ac, .ref ab, .int ((f_MO_add (0 : Int32) th le lo da y0_11 y3).1), .ref ax, .ref aw, .ref an, .ref av, .ref aa])), (ax, .inl (cJ, 48, .inr (.inl ((f_MO_add (0 : Int32) th le lo da y0_11 y3).2))))]) hP hD [0, 3] [1, 2, 4, 5, 6, 7] rfl rfl (by decide) (by decide) hk1 hFc (ht ▸ hB.1) hB.2.2
        have hP := hP.sub (ws' := [(h, .inr (5, [.int th, .ref af, .ref ak, .ref ar, .ref ag, .int le, .int lo, .int da, .ref ad, .ref ac, .ref ab, .int ((f_MO_add (0 : Int32) th le lo da y0_11 y3).1), .ref ax, .ref aw, .ref an, .ref av, .ref aa])), (ac, .inl (cJ, 64, .inr (.inl kc))), (ab, .inl (cJ, 8, .inr (.inl bg))), (ax, .inl (cJ, 48, .inr (.inl ((f_MO_add (0 : Int32) th le lo da y0_11 y3).2)))), (aw, .inl (cJ, 64, .inr (.inl y4))), (an, .inl (cJ, 8, .inr (.inl y5))), (av, .inl (cJ, 8, .inr (.inl y6))), (aa, .inl (cI, 8, .inl y7))]) [6, 0, 1, 7, 2, 3, 4, 5] rfl
        have hD := hD.sub (ws' := [(h, .inr (5, [.int th, .ref af, .ref ak, .ref ar, .ref ag, .int le, .int lo, .int da, .ref ad, .ref ac, .ref ab, .int ((f_MO_add (0 : Int32) th le lo da y0_11 y3).1), .ref ax, .ref aw, .ref an, .ref av, .ref aa])), (ac, .inl (cJ, 64, .inr (.inl kc))), (ab, .inl (cJ, 8, .inr (.inl bg))), (ax, .inl (cJ, 48, .inr (.inl ((f_MO_add (0 : Int32) th le lo da y0_11 y3).2)))), (aw, .inl (cJ, 64, .inr (.inl y4))), (an, .inl (cJ, 8, .inr (.inl y5))), (av, .inl (cJ, 8, .inr (.inl y6))), (aa, .inl (cI, 8, .inl y7))]) [6, 0, 1, 7, 2, 3, 4, 5] (by decide) rfl
        generalize H9 = H at hP hS ⊢
        refine lv_goto (tgt := 16) hx hb d_MO_hashText_33 (by decide) ?_
        have e0 : (f_MO_hashText_16 th le lo da si kc bg tx wi nw vv aw_ (n + 1) x1 y0_11 y3 y4 y5 y6 y7) = f_MO_hashText_16 th le lo da si kc bg tx wi nw vv aw_ n x1 ((f_MO_add (0 : Int32) th le lo da y0_11 y3).1) ((f_MO_add (0 : Int32) th le lo da y0_11 y3).2) y4 y5 y6 y7 := by rw [f_MO_hashText_16, if_neg h5]
        rw [e0]
        exact ih x1 ((f_MO_add (0 : Int32) th le lo da y0_11 y3).1) ((f_MO_add (0 : Int32) th le lo da y0_11 y3).2) y4 y5 y6 y7 _ _ ls (lp_up hI.1 (wh_ne hI (by assumption))).1 (lp_ms hI.1 (wh_ne hI (by assumption)) hm) (lv_sub hl [0, 1] rfl) hP hD hS
  have hl := lv_entry ([.ref h]) (n := 4) (Nat.le_of_ble_eq_true rfl)
  rw [lg_entry_eq]
  generalize (lg_sl ([.ref h]) ++ List.replicate (4 - (lg_sl ([.ref h])).length) Slot.unset).toArray = ls at hl ⊢
  have hl : lv_has ls 4 [(0, .ref h)] := hl
  refine lv_ldc2 (v := 32) hx hb hown (hts _ gw_602) d_MO_hashText_0 ?_
  refine lv_aload_n hx hb d_MO_hashText_3 rfl (lv_at hl 0 rfl) ?_
  refine va_get (D := (dC, dI)) (ci := 5) (v := .int si) (C := R_MO) (T := F_MO) (N := 17) hx hb hts in_MO hown hK hP 0 rfl rfl 11 (by decide) (hts _ gw_529) (fun _ h9 => h9) rfl d_MO_hashText_4 ?_
  refine lv_i2l (v := ((si).toInt64)) hx hb d_MO_hashText_7 rfl ?_
  refine lv_lmul hx hb d_MO_hashText_8 ?_
  refine lv_lstore_n (lv' := [(1, .long ((32 : Int64) * ((si).toInt64))), (0, .ref h)]) hx hb d_MO_hashText_9 rfl hl (by decide) rfl (fun ls hl => ?_)
  refine lv_aload_n hx hb d_MO_hashText_10 rfl (lv_at hl 1 rfl) ?_
  refine lv_ldc (v := (-2147483648)) hx hb hown (hts _ gw_603) d_MO_hashText_11 ?_
  have hPc := hP.sub (ws' := [(h, .inr (5, [.int th, .ref af, .ref ak, .ref ar, .ref ag, .int le, .int lo, .int da, .ref ad, .ref ac, .ref ab, .int si, .ref ax, .ref aw, .ref an, .ref av, .ref aa])), (ax, .inl (cJ, 48, .inr (.inl tx)))]) [0, 3] rfl
  have hDc := hD.sub (ws' := [(h, .inr (5, [.int th, .ref af, .ref ak, .ref ar, .ref ag, .int le, .int lo, .int da, .ref ad, .ref ac, .ref ab, .int si, .ref ax, .ref aw, .ref an, .ref av, .ref aa])), (ax, .inl (cJ, 48, .inr (.inl tx)))]) [0, 3] (by decide) rfl
  have hFc := va_free (wc := [(h, .inr (5, [.int th, .ref af, .ref ak, .ref ar, .ref ag, .int le, .int lo, .int da, .ref ad, .ref ac, .ref ab, .int si, .ref ax, .ref aw, .ref an, .ref av, .ref aa])), (ax, .inl (cJ, 48, .inr (.inl tx)))]) hD hS hA [0, 3] rfl
  refine va_callv (va_runV (As := [.int (-2147483648 : Int32)]) (rest := []) ⟨hx, hb, hml, hown, hts⟩ (c_MO_add l dC dI cI cJ h af ak ar ag ad ac ab ax aw an av aa _ (-2147483648 : Int32) th le lo da si tx (ix_si hsz)) ⟨callB_of 1 hts (bc_good gw_591) rfl rfl rfl (hts _ gw_6) (hts _ gw_589) (by decide +kernel) ⟨Nat.le_of_ble_eq_true rfl, Nat.le_of_ble_eq_true rfl⟩, (hts _ gw_590), (hts _ gw_711)⟩ ⟨bc_blind, va_recv (q0 := 0) hK hP (q := (R_MO, F_MO, 17)) rfl rfl, fun U hU hW => ⟨rfl, bc_give hPc hDc hK hE hS hFc U hU hW⟩⟩ rfl rfl hl.1 rfl (lv_room (Nat.le_of_ble_eq_true rfl)) d_MO_hashText_13 ⟨Nat.le_of_ble_eq_true rfl, Nat.le_of_ble_eq_true rfl⟩) hS (fun q _ h => hFc q h) hFc (fun u t H9 locs ht hvm hp hB hz1 hk1 hS => ?_)
  obtain ⟨hP, hD⟩ := va_join (wr := [(ac, .inl (cJ, 64, .inr (.inl kc))), (ab, .inl (cJ, 8, .inr (.inl bg))), (aw, .inl (cJ, 64, .inr (.inl wi))), (an, .inl (cJ, 8, .inr (.inl nw))), (av, .inl (cJ, 8, .inr (.inl vv))), (aa, .inl (cI, 8, .inl aw_))]) (w1 := [(h, .inr (5, [.int th, .ref af, .ref ak, .ref ar, .ref ag, .int le, .int lo, .int da, .ref ad, .ref ac, .ref ab, .int ((f_MO_add (-2147483648 : Int32) th le lo da si tx).1), .ref ax, .ref aw, .ref an, .ref av, .ref aa])), (ax, .inl (cJ, 48, .inr (.inl ((f_MO_add (-2147483648 : Int32) th le lo da si tx).2))))]) hP hD [0, 3] [1, 2, 4, 5, 6, 7] rfl rfl (by decide) (by decide) hk1 hFc (ht ▸ hB.1) hB.2.2
  have hP := hP.sub (ws' := [(h, .inr (5, [.int th, .ref af, .ref ak, .ref ar, .ref ag, .int le, .int lo, .int da, .ref ad, .ref ac, .ref ab, .int ((f_MO_add (-2147483648 : Int32) th le lo da si tx).1), .ref ax, .ref aw, .ref an, .ref av, .ref aa])), (ac, .inl (cJ, 64, .inr (.inl kc))), (ab, .inl (cJ, 8, .inr (.inl bg))), (ax, .inl (cJ, 48, .inr (.inl ((f_MO_add (-2147483648 : Int32) th le lo da si tx).2)))), (aw, .inl (cJ, 64, .inr (.inl wi))), (an, .inl (cJ, 8, .inr (.inl nw))), (av, .inl (cJ, 8, .inr (.inl vv))), (aa, .inl (cI, 8, .inl aw_))]) [6, 0, 1, 7, 2, 3, 4, 5] rfl
  have hD := hD.sub (ws' := [(h, .inr (5, [.int th, .ref af, .ref ak, .ref ar, .ref ag, .int le, .int lo, .int da, .ref ad, .ref ac, .ref ab, .int ((f_MO_add (-2147483648 : Int32) th le lo da si tx).1), .ref ax, .ref aw, .ref an, .ref av, .ref aa])), (ac, .inl (cJ, 64, .inr (.inl kc))), (ab, .inl (cJ, 8, .inr (.inl bg))), (ax, .inl (cJ, 48, .inr (.inl ((f_MO_add (-2147483648 : Int32) th le lo da si tx).2)))), (aw, .inl (cJ, 64, .inr (.inl wi))), (an, .inl (cJ, 8, .inr (.inl nw))), (av, .inl (cJ, 8, .inr (.inl vv))), (aa, .inl (cI, 8, .inl aw_))]) [6, 0, 1, 7, 2, 3, 4, 5] (by decide) rfl
  generalize H9 = H at hP hS ⊢
  have e0 : (f_MO_hashText th le lo da si kc bg tx wi nw vv aw_) = f_MO_hashText_16 th le lo da si kc bg tx wi nw vv aw_ 31 ((32 : Int64) * ((si).toInt64)) ((f_MO_add (-2147483648 : Int32) th le lo da si tx).1) ((f_MO_add (-2147483648 : Int32) th le lo da si tx).2) wi nw vv aw_ := by rw [f_MO_hashText]
  rw [e0]
  exact lp_16 31 ((32 : Int64) * ((si).toInt64)) ((f_MO_add (-2147483648 : Int32) th le lo da si tx).1) ((f_MO_add (-2147483648 : Int32) th le lo da si tx).2) wi nw vv aw_ _ _ ls (en_si hsz) (ms_30 hsz) (lv_sub hl [1, 0] rfl) hP hD hS
