-- FL_isValid
theorem d_FL_isValid_0 : decode prog_3_method_11_code 0 = .ok (.aload_n 0, 1) := by decide +kernel
theorem d_FL_isValid_1 : decode prog_3_method_11_code 1 = .ok (.iload_n 1, 1) := by decide +kernel
theorem d_FL_isValid_2 : decode prog_3_method_11_code 2 = .ok (.iconst 2, 1) := by decide +kernel
theorem d_FL_isValid_3 : decode prog_3_method_11_code 3 = .ok (.invokevirtual 27, 3) := by decide +kernel
theorem d_FL_isValid_6 : decode prog_3_method_11_code 6 = .ok (.aload_n 0, 1) := by decide +kernel
theorem d_FL_isValid_7 : decode prog_3_method_11_code 7 = .ok (.iload_n 1, 1) := by decide +kernel
theorem d_FL_isValid_8 : decode prog_3_method_11_code 8 = .ok (.iconst 0, 1) := by decide +kernel
theorem d_FL_isValid_9 : decode prog_3_method_11_code 9 = .ok (.invokevirtual 27, 3) := by decide +kernel
theorem d_FL_isValid_12 : decode prog_3_method_11_code 12 = .ok (.aload_n 0, 1) := by decide +kernel
theorem d_FL_isValid_13 : decode prog_3_method_11_code 13 = .ok (.iload_n 1, 1) := by decide +kernel
theorem d_FL_isValid_14 : decode prog_3_method_11_code 14 = .ok (.iconst 1, 1) := by decide +kernel
theorem d_FL_isValid_15 : decode prog_3_method_11_code 15 = .ok (.invokevirtual 27, 3) := by decide +kernel
theorem d_FL_isValid_18 : decode prog_3_method_11_code 18 = .ok (.invokestatic 34, 3) := by decide +kernel
theorem d_FL_isValid_21 : decode prog_3_method_11_code 21 = .ok (.if_icmp .ne 7, 3) := by decide +kernel
theorem d_FL_isValid_24 : decode prog_3_method_11_code 24 = .ok (.iconst 1, 1) := by decide +kernel
theorem d_FL_isValid_25 : decode prog_3_method_11_code 25 = .ok (.goto 4, 3) := by decide +kernel
theorem d_FL_isValid_28 : decode prog_3_method_11_code 28 = .ok (.iconst 0, 1) := by decide +kernel
theorem d_FL_isValid_29 : decode prog_3_method_11_code 29 = .ok (.ireturn, 1) := by decide +kernel
def y_FL_isValid : MethodName := ⟨"BootChain$Flash", "isValid", "(I)Z"⟩
def ws_FL_isValid : List Cond := .code y_FL_isValid prog_3_method_11_code 2 (some .boolean) :: bc_G
def f_FL_isValid (pl : Int32) (wl : Int32) (w : Nat → Int32) : Int32 := if (f_FL_read pl (2 : Int32) wl w) = (f_FL_sumOf (f_FL_read pl (0 : Int32) wl w) (f_FL_read pl (1 : Int32) wl w)) then (1 : Int32) else (0 : Int32)
set_option maxHeartbeats 4000000 in
set_option maxRecDepth 100000 in
theorem c_FL_isValid (l : Launch) (dC : Nat → ClassId) (dI : Nat → Nat → Nat) (cI cJ : ClassId) (h hw : Nat) (sz : Nat) (pl : Int32) (wl : Int32) (w : Nat → Int32) (h0 : vp_in (f_FL_indexOf pl 0) 70) (h1 : vp_in (f_FL_indexOf pl 1) 70) (h2 : vp_in (f_FL_indexOf pl 2) 70) : Met l y_FL_isValid ws_FL_isValid ({ frames := 2, cells := 0, slots := 0, locals := 43 } : Room) (va_Pc [.ref h, .int pl] (bc_pre (dC, dI) cI cJ [(h, .inr (1, [.ref hw, .int wl])), (hw, .inl (cI, 70, .inl w))] sz)) (va_Qi (fun (r : Int32) (_ : Unit) => r = (f_FL_isValid pl wl w)) (fun _ => bc_post (dC, dI) cI cJ (va_A [(h, .inr (1, [.ref hw, .int wl])), (hw, .inl (cI, 70, .inl w))] sz) [(h, .inr (1, [.ref hw, .int wl])), (hw, .inl (cI, 70, .inl w))]) (va_A [(h, .inr (1, [.ref hw, .int wl])), (hw, .inl (cI, 70, .inl w))] sz)) 0 0 (va_A [(h, .inr (1, [.ref hw, .int wl])), (hw, .inl (cI, 70, .inl w))] sz) := by
  refine Met.ofW (cc := prog_3_method_11_code) (maxL := 2) (ret := (some .boolean)) (by decide) rfl ?_
  intro p e s m args below meth c s₁ B hml hv
  obtain ⟨rfl, hsz, hP, hK, hD0, hE⟩ := hv
  have hx := B.exec
  have hb := B.bytes
  have hr := B.returns
  have hts : ∀ w ∈ bc_G, w.before ([.ref h, .int pl] : List Value).toArray s = true := fun w h => atoms_spec (ws := ws_FL_isValid) B.pre w (List.mem_cons_of_mem _ h)
  have hown : s.vm.findClass "BootChain$Flash" = some m.cls := findClass_of_methodNamed B.named
  have hlocks := B.notSynchronized
  subst hsz
  have hD := hD0.self (sz := s.heap.size)
  generalize hAe : va_A [(h, .inr (1, [.ref hw, .int wl])), (hw, .inl (cI, 70, .inl w))] s.heap.size = A at hD hE ⊢
  have hA : ∀ q : Nat, s.heap.size ≤ q → A q := fun q h => by rw [← hAe]; exact Or.inr h
  have hS : va_S A s.heap s.heap [] := va_S.rf
  have hl := lv_entry ([.ref h, .int pl]) (n := 2) (Nat.le_of_ble_eq_true rfl)
  rw [lg_entry_eq]
  generalize (lg_sl ([.ref h, .int pl]) ++ List.replicate (2 - (lg_sl ([.ref h, .int pl])).length) Slot.unset).toArray = ls at hl ⊢
  have hl : lv_has ls 2 [(0, .ref h), (1, .int pl)] := hl
  refine lv_aload_n hx hb d_FL_isValid_0 rfl (lv_at hl 0 rfl) ?_
  refine lv_iload_n hx hb d_FL_isValid_1 rfl (lv_at hl 1 rfl) ?_
  refine lv_iconst (v := 2) hx hb d_FL_isValid_2 (by decide) ?_
  have hPc := hP.sub (ws' := [(h, .inr (1, [.ref hw, .int wl])), (hw, .inl (cI, 70, .inl w))]) [0, 1] rfl
  have hDc := hD.sub (ws' := [(h, .inr (1, [.ref hw, .int wl])), (hw, .inl (cI, 70, .inl w))]) [0, 1] (by decide) rfl
  have hFc := va_free (wc := [(h, .inr (1, [.ref hw, .int wl])), (hw, .inl (cI, 70, .inl w))]) hD hS hA [0, 1] rfl
  refine va_calli (va_runV (As := [.int pl, .int (2 : Int32)]) (rest := []) ⟨hx, hb, hml, hown, hts⟩ (c_FL_read l dC dI cI cJ h hw _ pl (2 : Int32) wl w (by first | exact h0 | exact h1 | exact h2)) ⟨callB_of 2 hts (bc_good gw_99) rfl rfl rfl (hts _ gw_2) (hts _ gw_96) (by decide +kernel) ⟨Nat.le_of_ble_eq_true rfl, Nat.le_of_ble_eq_true rfl⟩, (hts _ gw_97), (hts _ gw_98)⟩ ⟨bc_blind, va_recv (q0 := 0) hK hP (q := (R_FL, F_FL, 2)) rfl rfl, fun U hU hW => ⟨rfl, bc_give hPc hDc hK hE hS hFc U hU hW⟩⟩ rfl rfl hl.1 rfl (lv_room (Nat.le_of_ble_eq_true rfl)) d_FL_isValid_3 ⟨Nat.le_of_ble_eq_true rfl, Nat.le_of_ble_eq_true rfl⟩) hS (fun q _ h => hFc q h) hFc (fun r u t H9 locs ht hvm hp hB hz1 hk1 hS => ?_)
  subst hp
  obtain ⟨hP, hD⟩ := va_join (wr := []) (w1 := [(h, .inr (1, [.ref hw, .int wl])), (hw, .inl (cI, 70, .inl w))]) hP hD [0, 1] [] rfl rfl (by decide) (by decide) hk1 hFc (ht ▸ hB.1) hB.2.2
  have hP := hP.sub (ws' := [(h, .inr (1, [.ref hw, .int wl])), (hw, .inl (cI, 70, .inl w))]) [0, 1] rfl
  have hD := hD.sub (ws' := [(h, .inr (1, [.ref hw, .int wl])), (hw, .inl (cI, 70, .inl w))]) [0, 1] (by decide) rfl
  generalize H9 = H at hP hS ⊢
  refine lv_aload_n hx hb d_FL_isValid_6 rfl (lv_at hl 0 rfl) ?_
  refine lv_iload_n hx hb d_FL_isValid_7 rfl (lv_at hl 1 rfl) ?_
  refine lv_iconst (v := 0) hx hb d_FL_isValid_8 (by decide) ?_
  have hPc := hP.sub (ws' := [(h, .inr (1, [.ref hw, .int wl])), (hw, .inl (cI, 70, .inl w))]) [0, 1] rfl
  have hDc := hD.sub (ws' := [(h, .inr (1, [.ref hw, .int wl])), (hw, .inl (cI, 70, .inl w))]) [0, 1] (by decide) rfl
  have hFc := va_free (wc := [(h, .inr (1, [.ref hw, .int wl])), (hw, .inl (cI, 70, .inl w))]) hD hS hA [0, 1] rfl
  refine va_calli (va_runV (As := [.int pl, .int (0 : Int32)]) (rest := [.int (f_FL_read pl (2 : Int32) wl w)]) ⟨hx, hb, hml, hown, hts⟩ (c_FL_read l dC dI cI cJ h hw _ pl (0 : Int32) wl w (by first | exact h0 | exact h1 | exact h2)) ⟨callB_of 2 hts (bc_good gw_99) rfl rfl rfl (hts _ gw_2) (hts _ gw_96) (by decide +kernel) ⟨Nat.le_of_ble_eq_true rfl, Nat.le_of_ble_eq_true rfl⟩, (hts _ gw_97), (hts _ gw_98)⟩ ⟨bc_blind, va_recv (q0 := 0) hK hP (q := (R_FL, F_FL, 2)) rfl rfl, fun U hU hW => ⟨rfl, bc_give hPc hDc hK hE hS hFc U hU hW⟩⟩ rfl rfl hl.1 rfl (lv_room (Nat.le_of_ble_eq_true rfl)) d_FL_isValid_9 ⟨Nat.le_of_ble_eq_true rfl, Nat.le_of_ble_eq_true rfl⟩) hS (fun q _ h => hFc q h) hFc (fun r u t H9 locs ht hvm hp hB hz1 hk1 hS => ?_)
  subst hp
  obtain ⟨hP, hD⟩ := va_join (wr := []) (w1 := [(h, .inr (1, [.ref hw, .int wl])), (hw, .inl (cI, 70, .inl w))]) hP hD [0, 1] [] rfl rfl (by decide) (by decide) hk1 hFc (ht ▸ hB.1) hB.2.2
  have hP := hP.sub (ws' := [(h, .inr (1, [.ref hw, .int wl])), (hw, .inl (cI, 70, .inl w))]) [0, 1] rfl
  have hD := hD.sub (ws' := [(h, .inr (1, [.ref hw, .int wl])), (hw, .inl (cI, 70, .inl w))]) [0, 1] (by decide) rfl
  generalize H9 = H at hP hS ⊢
  refine lv_aload_n hx hb d_FL_isValid_12 rfl (lv_at hl 0 rfl) ?_
  refine lv_iload_n hx hb d_FL_isValid_13 rfl (lv_at hl 1 rfl) ?_
  refine lv_iconst (v := 1) hx hb d_FL_isValid_14 (by decide) ?_
  have hPc := hP.sub (ws' := [(h, .inr (1, [.ref hw, .int wl])), (hw, .inl (cI, 70, .inl w))]) [0, 1] rfl
  have hDc := hD.sub (ws' := [(h, .inr (1, [.ref hw, .int wl])), (hw, .inl (cI, 70, .inl w))]) [0, 1] (by decide) rfl
  have hFc := va_free (wc := [(h, .inr (1, [.ref hw, .int wl])), (hw, .inl (cI, 70, .inl w))]) hD hS hA [0, 1] rfl
  refine va_calli (va_runV (As := [.int pl, .int (1 : Int32)]) (rest := [.int (f_FL_read pl (0 : Int32) wl w), .int (f_FL_read pl (2 : Int32) wl w)]) ⟨hx, hb, hml, hown, hts⟩ (c_FL_read l dC dI cI cJ h hw _ pl (1 : Int32) wl w (by first | exact h0 | exact h1 | exact h2)) ⟨callB_of 2 hts (bc_good gw_99) rfl rfl rfl (hts _ gw_2) (hts _ gw_96) (by decide +kernel) ⟨Nat.le_of_ble_eq_true rfl, Nat.le_of_ble_eq_true rfl⟩, (hts _ gw_97), (hts _ gw_98)⟩ ⟨bc_blind, va_recv (q0 := 0) hK hP (q := (R_FL, F_FL, 2)) rfl rfl, fun U hU hW => ⟨rfl, bc_give hPc hDc hK hE hS hFc U hU hW⟩⟩ rfl rfl hl.1 rfl (lv_room (Nat.le_of_ble_eq_true rfl)) d_FL_isValid_15 ⟨Nat.le_of_ble_eq_true rfl, Nat.le_of_ble_eq_true rfl⟩) hS (fun q _ h => hFc q h) hFc (fun r u t H9 locs ht hvm hp hB hz1 hk1 hS => ?_)
  subst hp
  obtain ⟨hP, hD⟩ := va_join (wr := []) (w1 := [(h, .inr (1, [.ref hw, .int wl])), (hw, .inl (cI, 70, .inl w))]) hP hD [0, 1] [] rfl rfl (by decide) (by decide) hk1 hFc (ht ▸ hB.1) hB.2.2
  have hP := hP.sub (ws' := [(h, .inr (1, [.ref hw, .int wl])), (hw, .inl (cI, 70, .inl w))]) [0, 1] rfl
  have hD := hD.sub (ws' := [(h, .inr (1, [.ref hw, .int wl])), (hw, .inl (cI, 70, .inl w))]) [0, 1] (by decide) rfl
  generalize H9 = H at hP hS ⊢
  have hPc := hP.sub (ws' := []) [] rfl
  have hDc := hD.sub (ws' := []) [] (by decide) rfl
  have hFc := va_free (wc := []) hD hS hA [] rfl
  refine va_calli (va_runS (As := [.int (f_FL_read pl (0 : Int32) wl w), .int (f_FL_read pl (1 : Int32) wl w)]) (rest := [.int (f_FL_read pl (2 : Int32) wl w)]) ⟨hx, hb, hml, hown, hts⟩ (c_FL_sumOf l dC dI cI cJ _ (f_FL_read pl (0 : Int32) wl w) (f_FL_read pl (1 : Int32) wl w)) ⟨callB_of 2 hts (bc_good gw_105) rfl rfl rfl (hts _ gw_2) (hts _ gw_103) (by decide +kernel) ⟨Nat.le_of_ble_eq_true rfl, Nat.le_of_ble_eq_true rfl⟩, (hts _ gw_104)⟩ ⟨bc_blind, fun U hU hW => ⟨rfl, bc_give hPc hDc hK hE hS hFc U hU hW⟩⟩ rfl rfl hl.1 rfl (lv_room (Nat.le_of_ble_eq_true rfl)) d_FL_isValid_18 ⟨Nat.le_of_ble_eq_true rfl, Nat.le_of_ble_eq_true rfl⟩) hS (fun q _ h => hFc q h) hFc (fun r u t H9 locs ht hvm hp hB hz1 hk1 hS => ?_)
  subst hp
  obtain ⟨hP, hD⟩ := va_join (wr := [(h, .inr (1, [.ref hw, .int wl])), (hw, .inl (cI, 70, .inl w))]) (w1 := []) hP hD [] [0, 1] rfl rfl (by decide) (by decide) hk1 hFc (ht ▸ hB.1) hB.2.2
  have hP := hP.sub (ws' := [(h, .inr (1, [.ref hw, .int wl])), (hw, .inl (cI, 70, .inl w))]) [0, 1] rfl
  have hD := hD.sub (ws' := [(h, .inr (1, [.ref hw, .int wl])), (hw, .inl (cI, 70, .inl w))]) [0, 1] (by decide) rfl
  generalize H9 = H at hP hS ⊢
  refine lv_icmp_ne (tgt := 28) hx hb d_FL_isValid_21 (by decide) (fun h2 => ?_) (fun h2 => ?_)
  · refine lv_iconst (v := 0) hx hb d_FL_isValid_28 (by decide) ?_
    have e0 : (f_FL_isValid pl wl w) = (0 : Int32) := by rw [f_FL_isValid, if_neg h2]
    rw [e0]
    exact W.zret (v := (0 : Int32)) (ty := .boolean) hx hb hr (rfl) (fun t ht hW => ⟨⟨(0 : Int32), (), rfl, rfl, by rw [ht]; exact hP, va_K.moved hW.alike hK, hD⟩, hS.F ht⟩) hS.2.2 d_FL_isValid_29
  · refine lv_iconst (v := 1) hx hb d_FL_isValid_24 (by decide) ?_
    refine lv_goto (tgt := 29) hx hb d_FL_isValid_25 (by decide) ?_
    have e0 : (f_FL_isValid pl wl w) = (1 : Int32) := by rw [f_FL_isValid, if_pos h2]
    rw [e0]
    exact W.zret (v := (1 : Int32)) (ty := .boolean) hx hb hr (rfl) (fun t ht hW => ⟨⟨(1 : Int32), (), rfl, rfl, by rw [ht]; exact hP, va_K.moved hW.alike hK, hD⟩, hS.F ht⟩) hS.2.2 d_FL_isValid_29
-- FL_serialOf
theorem d_FL_serialOf_0 : decode prog_3_method_12_code 0 = .ok (.aload_n 0, 1) := by decide +kernel
theorem d_FL_serialOf_1 : decode prog_3_method_12_code 1 = .ok (.iload_n 1, 1) := by decide +kernel
theorem d_FL_serialOf_2 : decode prog_3_method_12_code 2 = .ok (.iconst 0, 1) := by decide +kernel
theorem d_FL_serialOf_3 : decode prog_3_method_12_code 3 = .ok (.invokevirtual 27, 3) := by decide +kernel
theorem d_FL_serialOf_6 : decode prog_3_method_12_code 6 = .ok (.i2l, 1) := by decide +kernel
theorem d_FL_serialOf_7 : decode prog_3_method_12_code 7 = .ok (.ldc2_w 45, 3) := by decide +kernel
theorem d_FL_serialOf_10 : decode prog_3_method_12_code 10 = .ok (.land, 1) := by decide +kernel
theorem d_FL_serialOf_11 : decode prog_3_method_12_code 11 = .ok (.lreturn, 1) := by decide +kernel
def y_FL_serialOf : MethodName := ⟨"BootChain$Flash", "serialOf", "(I)J"⟩
def ws_FL_serialOf : List Cond := .code y_FL_serialOf prog_3_method_12_code 2 (some .long) :: bc_G
def f_FL_serialOf (pl : Int32) (wl : Int32) (w : Nat → Int32) : Int64 := ((((f_FL_read pl (0 : Int32) wl w)).toInt64) &&& (4294967295 : Int64))
set_option maxHeartbeats 4000000 in
set_option maxRecDepth 100000 in
theorem c_FL_serialOf (l : Launch) (dC : Nat → ClassId) (dI : Nat → Nat → Nat) (cI cJ : ClassId) (h hw : Nat) (sz : Nat) (pl : Int32) (wl : Int32) (w : Nat → Int32) (h0 : vp_in (f_FL_indexOf pl 0) 70) (h1 : vp_in (f_FL_indexOf pl 1) 70) (h2 : vp_in (f_FL_indexOf pl 2) 70) : Met l y_FL_serialOf ws_FL_serialOf ({ frames := 2, cells := 0, slots := 0, locals := 43 } : Room) (va_Pc [.ref h, .int pl] (bc_pre (dC, dI) cI cJ [(h, .inr (1, [.ref hw, .int wl])), (hw, .inl (cI, 70, .inl w))] sz)) (va_Ql (fun (r : Int64) (_ : Unit) => r = (f_FL_serialOf pl wl w)) (fun _ => bc_post (dC, dI) cI cJ (va_A [(h, .inr (1, [.ref hw, .int wl])), (hw, .inl (cI, 70, .inl w))] sz) [(h, .inr (1, [.ref hw, .int wl])), (hw, .inl (cI, 70, .inl w))]) (va_A [(h, .inr (1, [.ref hw, .int wl])), (hw, .inl (cI, 70, .inl w))] sz)) 0 0 (va_A [(h, .inr (1, [.ref hw, .int wl])), (hw, .inl (cI, 70, .inl w))] sz) := by
  refine Met.ofW (cc := prog_3_method_12_code) (maxL := 2) (ret := (some .long)) (by decide) rfl ?_
  intro p e s m args below meth c s₁ B hml hv
  obtain ⟨rfl, hsz, hP, hK, hD0, hE⟩ := hv
  have hx := B.exec
  have hb := B.bytes
  have hr := B.returns
  have hts : ∀ w ∈ bc_G, w.before ([.ref h, .int pl] : List Value).toArray s = true := fun w h => atoms_spec (ws := ws_FL_serialOf) B.pre w (List.mem_cons_of_mem _ h)
  have hown : s.vm.findClass "BootChain$Flash" = some m.cls := findClass_of_methodNamed B.named
  have hlocks := B.notSynchronized
  subst hsz
  have hD := hD0.self (sz := s.heap.size)
  generalize hAe : va_A [(h, .inr (1, [.ref hw, .int wl])), (hw, .inl (cI, 70, .inl w))] s.heap.size = A at hD hE ⊢
  have hA : ∀ q : Nat, s.heap.size ≤ q → A q := fun q h => by rw [← hAe]; exact Or.inr h
  have hS : va_S A s.heap s.heap [] := va_S.rf
  have hl := lv_entry ([.ref h, .int pl]) (n := 2) (Nat.le_of_ble_eq_true rfl)
  rw [lg_entry_eq]
  generalize (lg_sl ([.ref h, .int pl]) ++ List.replicate (2 - (lg_sl ([.ref h, .int pl])).length) Slot.unset).toArray = ls at hl ⊢
  have hl : lv_has ls 2 [(0, .ref h), (1, .int pl)] := hl
  refine lv_aload_n hx hb d_FL_serialOf_0 rfl (lv_at hl 0 rfl) ?_
  refine lv_iload_n hx hb d_FL_serialOf_1 rfl (lv_at hl 1 rfl) ?_
  refine lv_iconst (v := 0) hx hb d_FL_serialOf_2 (by decide) ?_
  have hPc := hP.sub (ws' := [(h, .inr (1, [.ref hw, .int wl])), (hw, .inl (cI, 70, .inl w))]) [0, 1] rfl
  have hDc := hD.sub (ws' := [(h, .inr (1, [.ref hw, .int wl])), (hw, .inl (cI, 70, .inl w))]) [0, 1] (by decide) rfl
  have hFc := va_free (wc := [(h, .inr (1, [.ref hw, .int wl])), (hw, .inl (cI, 70, .inl w))]) hD hS hA [0, 1] rfl
  refine va_calli (va_runV (As := [.int pl, .int (0 : Int32)]) (rest := []) ⟨hx, hb, hml, hown, hts⟩ (c_FL_read l dC dI cI cJ h hw _ pl (0 : Int32) wl w h0) ⟨callB_of 2 hts (bc_good gw_99) rfl rfl rfl (hts _ gw_2) (hts _ gw_96) (by decide +kernel) ⟨Nat.le_of_ble_eq_true rfl, Nat.le_of_ble_eq_true rfl⟩, (hts _ gw_97), (hts _ gw_98)⟩ ⟨bc_blind, va_recv (q0 := 0) hK hP (q := (R_FL, F_FL, 2)) rfl rfl, fun U hU hW => ⟨rfl, bc_give hPc hDc hK hE hS hFc U hU hW⟩⟩ rfl rfl hl.1 rfl (lv_room (Nat.le_of_ble_eq_true rfl)) d_FL_serialOf_3 ⟨Nat.le_of_ble_eq_true rfl, Nat.le_of_ble_eq_true rfl⟩) hS (fun q _ h => hFc q h) hFc (fun r u t H9 locs ht hvm hp hB hz1 hk1 hS => ?_)
  subst hp
  obtain ⟨hP, hD⟩ := va_join (wr := []) (w1 := [(h, .inr (1, [.ref hw, .int wl])), (hw, .inl (cI, 70, .inl w))]) hP hD [0, 1] [] rfl rfl (by decide) (by decide) hk1 hFc (ht ▸ hB.1) hB.2.2
  have hP := hP.sub (ws' := [(h, .inr (1, [.ref hw, .int wl])), (hw, .inl (cI, 70, .inl w))]) [0, 1] rfl
  have hD := hD.sub (ws' := [(h, .inr (1, [.ref hw, .int wl])), (hw, .inl (cI, 70, .inl w))]) [0, 1] (by decide) rfl
  generalize H9 = H at hP hS ⊢
  refine lv_i2l (v := (((f_FL_read pl (0 : Int32) wl w)).toInt64)) hx hb d_FL_serialOf_6 rfl ?_
  refine lv_ldc2 (v := 4294967295) hx hb hown (hts _ gw_109) d_FL_serialOf_7 ?_
  refine lv_land hx hb d_FL_serialOf_10 ?_
  have e0 : (f_FL_serialOf pl wl w) = ((((f_FL_read pl (0 : Int32) wl w)).toInt64) &&& (4294967295 : Int64)) := by rw [f_FL_serialOf]
  rw [e0]
  exact W.lret (v := ((((f_FL_read pl (0 : Int32) wl w)).toInt64) &&& (4294967295 : Int64))) hx hb hr (fun t ht hW => ⟨⟨((((f_FL_read pl (0 : Int32) wl w)).toInt64) &&& (4294967295 : Int64)), (), rfl, rfl, by rw [ht]; exact hP, va_K.moved hW.alike hK, hD⟩, hS.F ht⟩) hS.2.2 d_FL_serialOf_11
-- FL_heldRecord
theorem d_FL_heldRecord_0 : decode prog_3_method_10_code 0 = .ok (.aload_n 0, 1) := by decide +kernel
theorem d_FL_heldRecord_1 : decode prog_3_method_10_code 1 = .ok (.iconst 4, 1) := by decide +kernel
theorem d_FL_heldRecord_2 : decode prog_3_method_10_code 2 = .ok (.invokevirtual 37, 3) := by decide +kernel
theorem d_FL_heldRecord_5 : decode prog_3_method_10_code 5 = .ok (.istore_n 1, 1) := by decide +kernel
theorem d_FL_heldRecord_6 : decode prog_3_method_10_code 6 = .ok (.aload_n 0, 1) := by decide +kernel
theorem d_FL_heldRecord_7 : decode prog_3_method_10_code 7 = .ok (.iconst 5, 1) := by decide +kernel
theorem d_FL_heldRecord_8 : decode prog_3_method_10_code 8 = .ok (.invokevirtual 37, 3) := by decide +kernel
theorem d_FL_heldRecord_11 : decode prog_3_method_10_code 11 = .ok (.istore_n 2, 1) := by decide +kernel
theorem d_FL_heldRecord_12 : decode prog_3_method_10_code 12 = .ok (.iload_n 1, 1) := by decide +kernel
theorem d_FL_heldRecord_13 : decode prog_3_method_10_code 13 = .ok (.ifCond .eq 27, 3) := by decide +kernel
theorem d_FL_heldRecord_16 : decode prog_3_method_10_code 16 = .ok (.iload_n 2, 1) := by decide +kernel
theorem d_FL_heldRecord_17 : decode prog_3_method_10_code 17 = .ok (.ifCond .eq 23, 3) := by decide +kernel
theorem d_FL_heldRecord_20 : decode prog_3_method_10_code 20 = .ok (.aload_n 0, 1) := by decide +kernel
theorem d_FL_heldRecord_21 : decode prog_3_method_10_code 21 = .ok (.iconst 5, 1) := by decide +kernel
theorem d_FL_heldRecord_22 : decode prog_3_method_10_code 22 = .ok (.invokevirtual 41, 3) := by decide +kernel
theorem d_FL_heldRecord_25 : decode prog_3_method_10_code 25 = .ok (.aload_n 0, 1) := by decide +kernel
theorem d_FL_heldRecord_26 : decode prog_3_method_10_code 26 = .ok (.iconst 4, 1) := by decide +kernel
theorem d_FL_heldRecord_27 : decode prog_3_method_10_code 27 = .ok (.invokevirtual 41, 3) := by decide +kernel
theorem d_FL_heldRecord_30 : decode prog_3_method_10_code 30 = .ok (.lcmp, 1) := by decide +kernel
theorem d_FL_heldRecord_31 : decode prog_3_method_10_code 31 = .ok (.ifCond .le 7, 3) := by decide +kernel
theorem d_FL_heldRecord_34 : decode prog_3_method_10_code 34 = .ok (.iconst 1, 1) := by decide +kernel
theorem d_FL_heldRecord_35 : decode prog_3_method_10_code 35 = .ok (.goto 4, 3) := by decide +kernel
theorem d_FL_heldRecord_38 : decode prog_3_method_10_code 38 = .ok (.iconst 0, 1) := by decide +kernel
theorem d_FL_heldRecord_39 : decode prog_3_method_10_code 39 = .ok (.ireturn, 1) := by decide +kernel
theorem d_FL_heldRecord_40 : decode prog_3_method_10_code 40 = .ok (.iload_n 1, 1) := by decide +kernel
theorem d_FL_heldRecord_41 : decode prog_3_method_10_code 41 = .ok (.ifCond .eq 5, 3) := by decide +kernel
theorem d_FL_heldRecord_44 : decode prog_3_method_10_code 44 = .ok (.iconst 0, 1) := by decide +kernel
theorem d_FL_heldRecord_45 : decode prog_3_method_10_code 45 = .ok (.ireturn, 1) := by decide +kernel
theorem d_FL_heldRecord_46 : decode prog_3_method_10_code 46 = .ok (.iload_n 2, 1) := by decide +kernel
theorem d_FL_heldRecord_47 : decode prog_3_method_10_code 47 = .ok (.ifCond .eq 7, 3) := by decide +kernel
theorem d_FL_heldRecord_50 : decode prog_3_method_10_code 50 = .ok (.iconst 1, 1) := by decide +kernel
theorem d_FL_heldRecord_51 : decode prog_3_method_10_code 51 = .ok (.goto 4, 3) := by decide +kernel
theorem d_FL_heldRecord_54 : decode prog_3_method_10_code 54 = .ok (.iconst (-1), 1) := by decide +kernel
theorem d_FL_heldRecord_55 : decode prog_3_method_10_code 55 = .ok (.ireturn, 1) := by decide +kernel
def y_FL_heldRecord : MethodName := ⟨"BootChain$Flash", "heldRecord", "()I"⟩
def ws_FL_heldRecord : List Cond := .code y_FL_heldRecord prog_3_method_10_code 3 (some .int) :: bc_G
def f_FL_heldRecord (wl : Int32) (w : Nat → Int32) : Int32 := if (f_FL_isValid (4 : Int32) wl w) = 0 then if (f_FL_isValid (4 : Int32) wl w) = 0 then if (f_FL_isValid (5 : Int32) wl w) = 0 then (-1 : Int32) else (1 : Int32) else (0 : Int32) else if (f_FL_isValid (5 : Int32) wl w) = 0 then if (f_FL_isValid (4 : Int32) wl w) = 0 then if (f_FL_isValid (5 : Int32) wl w) = 0 then (-1 : Int32) else (1 : Int32) else (0 : Int32) else if (lg_cmp (f_FL_serialOf (5 : Int32) wl w) (f_FL_serialOf (4 : Int32) wl w)) ≤ 0 then (0 : Int32) else (1 : Int32)
theorem p_heldRecord (wl : Int32) (w : Nat → Int32) : f_FL_heldRecord wl w = 0 ∨ f_FL_heldRecord wl w = 1 ∨ f_FL_heldRecord wl w = -1 := by
  unfold f_FL_heldRecord
  repeat' split
  all_goals simp
theorem ix_rec {x k : Int32} (h : x = 0 ∨ x = 1 ∨ x = -1) (hn : ¬ x = -1) (hk : k = 0 ∨ k = 1 ∨ k = 2) : vp_in (f_FL_indexOf (4 + x) k) 70 := by
  rcases h with rfl | rfl | rfl
  · rcases hk with rfl | rfl | rfl <;> (unfold vp_in; decide +kernel)
  · rcases hk with rfl | rfl | rfl <;> (unfold vp_in; decide +kernel)
  · exact absurd rfl hn
set_option maxHeartbeats 4000000 in
set_option maxRecDepth 100000 in
theorem c_FL_heldRecord (l : Launch) (dC : Nat → ClassId) (dI : Nat → Nat → Nat) (cI cJ : ClassId) (h hw : Nat) (sz : Nat) (wl : Int32) (w : Nat → Int32) : Met l y_FL_heldRecord ws_FL_heldRecord ({ frames := 3, cells := 0, slots := 0, locals := 64 } : Room) (va_Pc [.ref h] (bc_pre (dC, dI) cI cJ [(h, .inr (1, [.ref hw, .int wl])), (hw, .inl (cI, 70, .inl w))] sz)) (va_Qi (fun (r : Int32) (_ : Unit) => r = (f_FL_heldRecord wl w)) (fun _ => bc_post (dC, dI) cI cJ (va_A [(h, .inr (1, [.ref hw, .int wl])), (hw, .inl (cI, 70, .inl w))] sz) [(h, .inr (1, [.ref hw, .int wl])), (hw, .inl (cI, 70, .inl w))]) (va_A [(h, .inr (1, [.ref hw, .int wl])), (hw, .inl (cI, 70, .inl w))] sz)) 0 0 (va_A [(h, .inr (1, [.ref hw, .int wl])), (hw, .inl (cI, 70, .inl w))] sz) := by
  refine Met.ofW (cc := prog_3_method_10_code) (maxL := 3) (ret := (some .int)) (by decide) rfl ?_
  intro p e s m args below meth c s₁ B hml hv
  obtain ⟨rfl, hsz, hP, hK, hD0, hE⟩ := hv
  have hx := B.exec
  have hb := B.bytes
  have hr := B.returns
  have hts : ∀ w ∈ bc_G, w.before ([.ref h] : List Value).toArray s = true := fun w h => atoms_spec (ws := ws_FL_heldRecord) B.pre w (List.mem_cons_of_mem _ h)
  have hown : s.vm.findClass "BootChain$Flash" = some m.cls := findClass_of_methodNamed B.named
  have hlocks := B.notSynchronized
  subst hsz
  have hD := hD0.self (sz := s.heap.size)
  generalize hAe : va_A [(h, .inr (1, [.ref hw, .int wl])), (hw, .inl (cI, 70, .inl w))] s.heap.size = A at hD hE ⊢
  have hA : ∀ q : Nat, s.heap.size ≤ q → A q := fun q h => by rw [← hAe]; exact Or.inr h
  have hS : va_S A s.heap s.heap [] := va_S.rf
  have hl := lv_entry ([.ref h]) (n := 3) (Nat.le_of_ble_eq_true rfl)
  rw [lg_entry_eq]
  generalize (lg_sl ([.ref h]) ++ List.replicate (3 - (lg_sl ([.ref h])).length) Slot.unset).toArray = ls at hl ⊢
  have hl : lv_has ls 3 [(0, .ref h)] := hl
  refine lv_aload_n hx hb d_FL_heldRecord_0 rfl (lv_at hl 0 rfl) ?_
  refine lv_iconst (v := 4) hx hb d_FL_heldRecord_1 (by decide) ?_
  have hPc := hP.sub (ws' := [(h, .inr (1, [.ref hw, .int wl])), (hw, .inl (cI, 70, .inl w))]) [0, 1] rfl
  have hDc := hD.sub (ws' := [(h, .inr (1, [.ref hw, .int wl])), (hw, .inl (cI, 70, .inl w))]) [0, 1] (by decide) rfl
  have hFc := va_free (wc := [(h, .inr (1, [.ref hw, .int wl])), (hw, .inl (cI, 70, .inl w))]) hD hS hA [0, 1] rfl
  refine va_calli (va_runV (As := [.int (4 : Int32)]) (rest := []) ⟨hx, hb, hml, hown, hts⟩ (c_FL_isValid l dC dI cI cJ h hw _ (4 : Int32) wl w (by unfold vp_in; decide +kernel) (by unfold vp_in; decide +kernel) (by unfold vp_in; decide +kernel)) ⟨callB_of 1 hts (bc_good gw_95) rfl rfl rfl (hts _ gw_2) (hts _ gw_93) (by decide +kernel) ⟨Nat.le_of_ble_eq_true rfl, Nat.le_of_ble_eq_true rfl⟩, (hts _ gw_94), (hts _ gw_690)⟩ ⟨bc_blind, va_recv (q0 := 0) hK hP (q := (R_FL, F_FL, 2)) rfl rfl, fun U hU hW => ⟨rfl, bc_give hPc hDc hK hE hS hFc U hU hW⟩⟩ rfl rfl hl.1 rfl (lv_room (Nat.le_of_ble_eq_true rfl)) d_FL_heldRecord_2 ⟨Nat.le_of_ble_eq_true rfl, Nat.le_of_ble_eq_true rfl⟩) hS (fun q _ h => hFc q h) hFc (fun r u t H9 locs ht hvm hp hB hz1 hk1 hS => ?_)
  subst hp
  obtain ⟨hP, hD⟩ := va_join (wr := []) (w1 := [(h, .inr (1, [.ref hw, .int wl])), (hw, .inl (cI, 70, .inl w))]) hP hD [0, 1] [] rfl rfl (by decide) (by decide) hk1 hFc (ht ▸ hB.1) hB.2.2
  have hP := hP.sub (ws' := [(h, .inr (1, [.ref hw, .int wl])), (hw, .inl (cI, 70, .inl w))]) [0, 1] rfl
  have hD := hD.sub (ws' := [(h, .inr (1, [.ref hw, .int wl])), (hw, .inl (cI, 70, .inl w))]) [0, 1] (by decide) rfl
  generalize H9 = H at hP hS ⊢
  refine lv_istore_n (lv' := [(1, .int (f_FL_isValid (4 : Int32) wl w)), (0, .ref h)]) hx hb d_FL_heldRecord_5 rfl hl (by decide) rfl (fun ls hl => ?_)
  refine lv_aload_n hx hb d_FL_heldRecord_6 rfl (lv_at hl 1 rfl) ?_
  refine lv_iconst (v := 5) hx hb d_FL_heldRecord_7 (by decide) ?_
  have hPc := hP.sub (ws' := [(h, .inr (1, [.ref hw, .int wl])), (hw, .inl (cI, 70, .inl w))]) [0, 1] rfl
  have hDc := hD.sub (ws' := [(h, .inr (1, [.ref hw, .int wl])), (hw, .inl (cI, 70, .inl w))]) [0, 1] (by decide) rfl
  have hFc := va_free (wc := [(h, .inr (1, [.ref hw, .int wl])), (hw, .inl (cI, 70, .inl w))]) hD hS hA [0, 1] rfl
  refine va_calli (va_runV (As := [.int (5 : Int32)]) (rest := []) ⟨hx, hb, hml, hown, hts⟩ (c_FL_isValid l dC dI cI cJ h hw _ (5 : Int32) wl w (by unfold vp_in; decide +kernel) (by unfold vp_in; decide +kernel) (by unfold vp_in; decide +kernel)) ⟨callB_of 1 hts (bc_good gw_95) rfl rfl rfl (hts _ gw_2) (hts _ gw_93) (by decide +kernel) ⟨Nat.le_of_ble_eq_true rfl, Nat.le_of_ble_eq_true rfl⟩, (hts _ gw_94), (hts _ gw_690)⟩ ⟨bc_blind, va_recv (q0 := 0) hK hP (q := (R_FL, F_FL, 2)) rfl rfl, fun U hU hW => ⟨rfl, bc_give hPc hDc hK hE hS hFc U hU hW⟩⟩ rfl rfl hl.1 rfl (lv_room (Nat.le_of_ble_eq_true rfl)) d_FL_heldRecord_8 ⟨Nat.le_of_ble_eq_true rfl, Nat.le_of_ble_eq_true rfl⟩) hS (fun q _ h => hFc q h) hFc (fun r u t H9 locs ht hvm hp hB hz1 hk1 hS => ?_)
  subst hp
  obtain ⟨hP, hD⟩ := va_join (wr := []) (w1 := [(h, .inr (1, [.ref hw, .int wl])), (hw, .inl (cI, 70, .inl w))]) hP hD [0, 1] [] rfl rfl (by decide) (by decide) hk1 hFc (ht ▸ hB.1) hB.2.2
  have hP := hP.sub (ws' := [(h, .inr (1, [.ref hw, .int wl])), (hw, .inl (cI, 70, .inl w))]) [0, 1] rfl
  have hD := hD.sub (ws' := [(h, .inr (1, [.ref hw, .int wl])), (hw, .inl (cI, 70, .inl w))]) [0, 1] (by decide) rfl
  generalize H9 = H at hP hS ⊢
  refine lv_istore_n (lv' := [(2, .int (f_FL_isValid (5 : Int32) wl w)), (1, .int (f_FL_isValid (4 : Int32) wl w)), (0, .ref h)]) hx hb d_FL_heldRecord_11 rfl hl (by decide) rfl (fun ls hl => ?_)
  refine lv_iload_n hx hb d_FL_heldRecord_12 rfl (lv_at hl 1 rfl) ?_
  refine lv_if_eq (tgt := 40) hx hb d_FL_heldRecord_13 (by decide) (fun h8 => ?_) (fun h8 => ?_)
  · refine lv_iload_n hx hb d_FL_heldRecord_40 rfl (lv_at hl 1 rfl) ?_
    refine lv_if_eq (tgt := 46) hx hb d_FL_heldRecord_41 (by decide) (fun h9 => ?_) (fun h9 => ?_)
    · refine lv_iload_n hx hb d_FL_heldRecord_46 rfl (lv_at hl 0 rfl) ?_
      refine lv_if_eq (tgt := 54) hx hb d_FL_heldRecord_47 (by decide) (fun h10 => ?_) (fun h10 => ?_)
      · refine lv_iconst (v := (-1)) hx hb d_FL_heldRecord_54 (by decide) ?_
        have e0 : (f_FL_heldRecord wl w) = (-1 : Int32) := by rw [f_FL_heldRecord, if_pos h8, if_pos h9, if_pos h10]
        rw [e0]
        exact W.iret (v := (-1 : Int32)) hx hb hr (fun t ht hW => ⟨⟨(-1 : Int32), (), rfl, rfl, by rw [ht]; exact hP, va_K.moved hW.alike hK, hD⟩, hS.F ht⟩) hS.2.2 d_FL_heldRecord_55
      · refine lv_iconst (v := 1) hx hb d_FL_heldRecord_50 (by decide) ?_
        refine lv_goto (tgt := 55) hx hb d_FL_heldRecord_51 (by decide) ?_
        have e0 : (f_FL_heldRecord wl w) = (1 : Int32) := by rw [f_FL_heldRecord, if_pos h8, if_pos h9, if_neg h10]
        rw [e0]
        exact W.iret (v := (1 : Int32)) hx hb hr (fun t ht hW => ⟨⟨(1 : Int32), (), rfl, rfl, by rw [ht]; exact hP, va_K.moved hW.alike hK, hD⟩, hS.F ht⟩) hS.2.2 d_FL_heldRecord_55
    · refine lv_iconst (v := 0) hx hb d_FL_heldRecord_44 (by decide) ?_
      have e0 : (f_FL_heldRecord wl w) = (0 : Int32) := by rw [f_FL_heldRecord, if_pos h8, if_neg h9]
      rw [e0]
      exact W.iret (v := (0 : Int32)) hx hb hr (fun t ht hW => ⟨⟨(0 : Int32), (), rfl, rfl, by rw [ht]; exact hP, va_K.moved hW.alike hK, hD⟩, hS.F ht⟩) hS.2.2 d_FL_heldRecord_45
  · refine lv_iload_n hx hb d_FL_heldRecord_16 rfl (lv_at hl 0 rfl) ?_
    refine lv_if_eq (tgt := 40) hx hb d_FL_heldRecord_17 (by decide) (fun h11 => ?_) (fun h11 => ?_)
    · refine lv_iload_n hx hb d_FL_heldRecord_40 rfl (lv_at hl 1 rfl) ?_
      refine lv_if_eq (tgt := 46) hx hb d_FL_heldRecord_41 (by decide) (fun h12 => ?_) (fun h12 => ?_)
      · refine lv_iload_n hx hb d_FL_heldRecord_46 rfl (lv_at hl 0 rfl) ?_
        refine lv_if_eq (tgt := 54) hx hb d_FL_heldRecord_47 (by decide) (fun h13 => ?_) (fun h13 => ?_)
        · refine lv_iconst (v := (-1)) hx hb d_FL_heldRecord_54 (by decide) ?_
          have e0 : (f_FL_heldRecord wl w) = (-1 : Int32) := by rw [f_FL_heldRecord, if_neg h8, if_pos h11, if_pos h12, if_pos h13]
          rw [e0]
          exact W.iret (v := (-1 : Int32)) hx hb hr (fun t ht hW => ⟨⟨(-1 : Int32), (), rfl, rfl, by rw [ht]; exact hP, va_K.moved hW.alike hK, hD⟩, hS.F ht⟩) hS.2.2 d_FL_heldRecord_55
        · refine lv_iconst (v := 1) hx hb d_FL_heldRecord_50 (by decide) ?_
          refine lv_goto (tgt := 55) hx hb d_FL_heldRecord_51 (by decide) ?_
          have e0 : (f_FL_heldRecord wl w) = (1 : Int32) := by rw [f_FL_heldRecord, if_neg h8, if_pos h11, if_pos h12, if_neg h13]
          rw [e0]
          exact W.iret (v := (1 : Int32)) hx hb hr (fun t ht hW => ⟨⟨(1 : Int32), (), rfl, rfl, by rw [ht]; exact hP, va_K.moved hW.alike hK, hD⟩, hS.F ht⟩) hS.2.2 d_FL_heldRecord_55
      · refine lv_iconst (v := 0) hx hb d_FL_heldRecord_44 (by decide) ?_
        have e0 : (f_FL_heldRecord wl w) = (0 : Int32) := by rw [f_FL_heldRecord, if_neg h8, if_pos h11, if_neg h12]
        rw [e0]
        exact W.iret (v := (0 : Int32)) hx hb hr (fun t ht hW => ⟨⟨(0 : Int32), (), rfl, rfl, by rw [ht]; exact hP, va_K.moved hW.alike hK, hD⟩, hS.F ht⟩) hS.2.2 d_FL_heldRecord_45
    · refine lv_aload_n hx hb d_FL_heldRecord_20 rfl (lv_at hl 2 rfl) ?_
      refine lv_iconst (v := 5) hx hb d_FL_heldRecord_21 (by decide) ?_
      have hPc := hP.sub (ws' := [(h, .inr (1, [.ref hw, .int wl])), (hw, .inl (cI, 70, .inl w))]) [0, 1] rfl
      have hDc := hD.sub (ws' := [(h, .inr (1, [.ref hw, .int wl])), (hw, .inl (cI, 70, .inl w))]) [0, 1] (by decide) rfl
      have hFc := va_free (wc := [(h, .inr (1, [.ref hw, .int wl])), (hw, .inl (cI, 70, .inl w))]) hD hS hA [0, 1] rfl
      refine va_calll (va_runV (As := [.int (5 : Int32)]) (rest := []) ⟨hx, hb, hml, hown, hts⟩ (c_FL_serialOf l dC dI cI cJ h hw _ (5 : Int32) wl w (by unfold vp_in; decide +kernel) (by unfold vp_in; decide +kernel) (by unfold vp_in; decide +kernel)) ⟨callB_of 1 hts (bc_good gw_108) rfl rfl rfl (hts _ gw_2) (hts _ gw_106) (by decide +kernel) ⟨Nat.le_of_ble_eq_true rfl, Nat.le_of_ble_eq_true rfl⟩, (hts _ gw_107), (hts _ gw_691)⟩ ⟨bc_blind, va_recv (q0 := 0) hK hP (q := (R_FL, F_FL, 2)) rfl rfl, fun U hU hW => ⟨rfl, bc_give hPc hDc hK hE hS hFc U hU hW⟩⟩ rfl rfl hl.1 rfl (lv_room (Nat.le_of_ble_eq_true rfl)) d_FL_heldRecord_22 ⟨Nat.le_of_ble_eq_true rfl, Nat.le_of_ble_eq_true rfl⟩) hS (fun q _ h => hFc q h) hFc (fun r u t H9 locs ht hvm hp hB hz1 hk1 hS => ?_)
      subst hp
      obtain ⟨hP, hD⟩ := va_join (wr := []) (w1 := [(h, .inr (1, [.ref hw, .int wl])), (hw, .inl (cI, 70, .inl w))]) hP hD [0, 1] [] rfl rfl (by decide) (by decide) hk1 hFc (ht ▸ hB.1) hB.2.2
      have hP := hP.sub (ws' := [(h, .inr (1, [.ref hw, .int wl])), (hw, .inl (cI, 70, .inl w))]) [0, 1] rfl
      have hD := hD.sub (ws' := [(h, .inr (1, [.ref hw, .int wl])), (hw, .inl (cI, 70, .inl w))]) [0, 1] (by decide) rfl
      generalize H9 = H at hP hS ⊢
      refine lv_aload_n hx hb d_FL_heldRecord_25 rfl (lv_at hl 2 rfl) ?_
      refine lv_iconst (v := 4) hx hb d_FL_heldRecord_26 (by decide) ?_
      have hPc := hP.sub (ws' := [(h, .inr (1, [.ref hw, .int wl])), (hw, .inl (cI, 70, .inl w))]) [0, 1] rfl
      have hDc := hD.sub (ws' := [(h, .inr (1, [.ref hw, .int wl])), (hw, .inl (cI, 70, .inl w))]) [0, 1] (by decide) rfl
      have hFc := va_free (wc := [(h, .inr (1, [.ref hw, .int wl])), (hw, .inl (cI, 70, .inl w))]) hD hS hA [0, 1] rfl
      refine va_calll (va_runV (As := [.int (4 : Int32)]) (rest := [.long (f_FL_serialOf (5 : Int32) wl w)]) ⟨hx, hb, hml, hown, hts⟩ (c_FL_serialOf l dC dI cI cJ h hw _ (4 : Int32) wl w (by unfold vp_in; decide +kernel) (by unfold vp_in; decide +kernel) (by unfold vp_in; decide +kernel)) ⟨callB_of 1 hts (bc_good gw_108) rfl rfl rfl (hts _ gw_2) (hts _ gw_106) (by decide +kernel) ⟨Nat.le_of_ble_eq_true rfl, Nat.le_of_ble_eq_true rfl⟩, (hts _ gw_107), (hts _ gw_691)⟩ ⟨bc_blind, va_recv (q0 := 0) hK hP (q := (R_FL, F_FL, 2)) rfl rfl, fun U hU hW => ⟨rfl, bc_give hPc hDc hK hE hS hFc U hU hW⟩⟩ rfl rfl hl.1 rfl (lv_room (Nat.le_of_ble_eq_true rfl)) d_FL_heldRecord_27 ⟨Nat.le_of_ble_eq_true rfl, Nat.le_of_ble_eq_true rfl⟩) hS (fun q _ h => hFc q h) hFc (fun r u t H9 locs ht hvm hp hB hz1 hk1 hS => ?_)
      subst hp
      obtain ⟨hP, hD⟩ := va_join (wr := []) (w1 := [(h, .inr (1, [.ref hw, .int wl])), (hw, .inl (cI, 70, .inl w))]) hP hD [0, 1] [] rfl rfl (by decide) (by decide) hk1 hFc (ht ▸ hB.1) hB.2.2
      have hP := hP.sub (ws' := [(h, .inr (1, [.ref hw, .int wl])), (hw, .inl (cI, 70, .inl w))]) [0, 1] rfl
      have hD := hD.sub (ws' := [(h, .inr (1, [.ref hw, .int wl])), (hw, .inl (cI, 70, .inl w))]) [0, 1] (by decide) rfl
      generalize H9 = H at hP hS ⊢
      refine W.lcmp hx hb d_FL_heldRecord_30 ?_
      refine lv_if_le (tgt := 38) hx hb d_FL_heldRecord_31 (by decide) (fun h14 => ?_) (fun h14 => ?_)
      · refine lv_iconst (v := 0) hx hb d_FL_heldRecord_38 (by decide) ?_
        have e0 : (f_FL_heldRecord wl w) = (0 : Int32) := by rw [f_FL_heldRecord, if_neg h8, if_neg h11, if_pos h14]
        rw [e0]
        exact W.iret (v := (0 : Int32)) hx hb hr (fun t ht hW => ⟨⟨(0 : Int32), (), rfl, rfl, by rw [ht]; exact hP, va_K.moved hW.alike hK, hD⟩, hS.F ht⟩) hS.2.2 d_FL_heldRecord_39
      · refine lv_iconst (v := 1) hx hb d_FL_heldRecord_34 (by decide) ?_
        refine lv_goto (tgt := 39) hx hb d_FL_heldRecord_35 (by decide) ?_
        have e0 : (f_FL_heldRecord wl w) = (1 : Int32) := by rw [f_FL_heldRecord, if_neg h8, if_neg h11, if_neg h14]
        rw [e0]
        exact W.iret (v := (1 : Int32)) hx hb hr (fun t ht hW => ⟨⟨(1 : Int32), (), rfl, rfl, by rw [ht]; exact hP, va_K.moved hW.alike hK, hD⟩, hS.F ht⟩) hS.2.2 d_FL_heldRecord_39
-- FL_heldState
theorem d_FL_heldState_0 : decode prog_3_method_8_code 0 = .ok (.aload_n 0, 1) := by decide +kernel
theorem d_FL_heldState_1 : decode prog_3_method_8_code 1 = .ok (.invokevirtual 23, 3) := by decide +kernel
theorem d_FL_heldState_4 : decode prog_3_method_8_code 4 = .ok (.istore_n 1, 1) := by decide +kernel
theorem d_FL_heldState_5 : decode prog_3_method_8_code 5 = .ok (.iload_n 1, 1) := by decide +kernel
theorem d_FL_heldState_6 : decode prog_3_method_8_code 6 = .ok (.iconst (-1), 1) := by decide +kernel
theorem d_FL_heldState_7 : decode prog_3_method_8_code 7 = .ok (.if_icmp .ne 7, 3) := by decide +kernel
theorem d_FL_heldState_10 : decode prog_3_method_8_code 10 = .ok (.iconst 0, 1) := by decide +kernel
theorem d_FL_heldState_11 : decode prog_3_method_8_code 11 = .ok (.goto 11, 3) := by decide +kernel
theorem d_FL_heldState_14 : decode prog_3_method_8_code 14 = .ok (.aload_n 0, 1) := by decide +kernel
theorem d_FL_heldState_15 : decode prog_3_method_8_code 15 = .ok (.iconst 4, 1) := by decide +kernel
theorem d_FL_heldState_16 : decode prog_3_method_8_code 16 = .ok (.iload_n 1, 1) := by decide +kernel
theorem d_FL_heldState_17 : decode prog_3_method_8_code 17 = .ok (.iadd, 1) := by decide +kernel
theorem d_FL_heldState_18 : decode prog_3_method_8_code 18 = .ok (.iconst 1, 1) := by decide +kernel
theorem d_FL_heldState_19 : decode prog_3_method_8_code 19 = .ok (.invokevirtual 27, 3) := by decide +kernel
theorem d_FL_heldState_22 : decode prog_3_method_8_code 22 = .ok (.ireturn, 1) := by decide +kernel
def y_FL_heldState : MethodName := ⟨"BootChain$Flash", "heldState", "()I"⟩
def ws_FL_heldState : List Cond := .code y_FL_heldState prog_3_method_8_code 2 (some .int) :: bc_G
def f_FL_heldState (wl : Int32) (w : Nat → Int32) : Int32 := if (f_FL_heldRecord wl w) = (-1 : Int32) then (0 : Int32) else (f_FL_read ((4 : Int32) + (f_FL_heldRecord wl w)) (1 : Int32) wl w)
set_option maxHeartbeats 4000000 in
set_option maxRecDepth 100000 in
theorem c_FL_heldState (l : Launch) (dC : Nat → ClassId) (dI : Nat → Nat → Nat) (cI cJ : ClassId) (h hw : Nat) (sz : Nat) (wl : Int32) (w : Nat → Int32) : Met l y_FL_heldState ws_FL_heldState ({ frames := 4, cells := 0, slots := 0, locals := 86 } : Room) (va_Pc [.ref h] (bc_pre (dC, dI) cI cJ [(h, .inr (1, [.ref hw, .int wl])), (hw, .inl (cI, 70, .inl w))] sz)) (va_Qi (fun (r : Int32) (_ : Unit) => r = (f_FL_heldState wl w)) (fun _ => bc_post (dC, dI) cI cJ (va_A [(h, .inr (1, [.ref hw, .int wl])), (hw, .inl (cI, 70, .inl w))] sz) [(h, .inr (1, [.ref hw, .int wl])), (hw, .inl (cI, 70, .inl w))]) (va_A [(h, .inr (1, [.ref hw, .int wl])), (hw, .inl (cI, 70, .inl w))] sz)) 0 0 (va_A [(h, .inr (1, [.ref hw, .int wl])), (hw, .inl (cI, 70, .inl w))] sz) := by
  refine Met.ofW (cc := prog_3_method_8_code) (maxL := 2) (ret := (some .int)) (by decide) rfl ?_
  intro p e s m args below meth c s₁ B hml hv
  obtain ⟨rfl, hsz, hP, hK, hD0, hE⟩ := hv
  have hx := B.exec
  have hb := B.bytes
  have hr := B.returns
  have hts : ∀ w ∈ bc_G, w.before ([.ref h] : List Value).toArray s = true := fun w h => atoms_spec (ws := ws_FL_heldState) B.pre w (List.mem_cons_of_mem _ h)
  have hown : s.vm.findClass "BootChain$Flash" = some m.cls := findClass_of_methodNamed B.named
  have hlocks := B.notSynchronized
  subst hsz
  have hD := hD0.self (sz := s.heap.size)
  generalize hAe : va_A [(h, .inr (1, [.ref hw, .int wl])), (hw, .inl (cI, 70, .inl w))] s.heap.size = A at hD hE ⊢
  have hA : ∀ q : Nat, s.heap.size ≤ q → A q := fun q h => by rw [← hAe]; exact Or.inr h
  have hS : va_S A s.heap s.heap [] := va_S.rf
  have hl := lv_entry ([.ref h]) (n := 2) (Nat.le_of_ble_eq_true rfl)
  rw [lg_entry_eq]
  generalize (lg_sl ([.ref h]) ++ List.replicate (2 - (lg_sl ([.ref h])).length) Slot.unset).toArray = ls at hl ⊢
  have hl : lv_has ls 2 [(0, .ref h)] := hl
  refine lv_aload_n hx hb d_FL_heldState_0 rfl (lv_at hl 0 rfl) ?_
  have hPc := hP.sub (ws' := [(h, .inr (1, [.ref hw, .int wl])), (hw, .inl (cI, 70, .inl w))]) [0, 1] rfl
  have hDc := hD.sub (ws' := [(h, .inr (1, [.ref hw, .int wl])), (hw, .inl (cI, 70, .inl w))]) [0, 1] (by decide) rfl
  have hFc := va_free (wc := [(h, .inr (1, [.ref hw, .int wl])), (hw, .inl (cI, 70, .inl w))]) hD hS hA [0, 1] rfl
  refine va_calli (va_runV (As := []) (rest := []) ⟨hx, hb, hml, hown, hts⟩ (c_FL_heldRecord l dC dI cI cJ h hw _ wl w) ⟨callB_of 0 hts (bc_good gw_92) rfl rfl rfl (hts _ gw_2) (hts _ gw_90) (by decide +kernel) ⟨Nat.le_of_ble_eq_true rfl, Nat.le_of_ble_eq_true rfl⟩, (hts _ gw_91), (hts _ gw_689)⟩ ⟨bc_blind, va_recv (q0 := 0) hK hP (q := (R_FL, F_FL, 2)) rfl rfl, fun U hU hW => ⟨rfl, bc_give hPc hDc hK hE hS hFc U hU hW⟩⟩ rfl rfl hl.1 rfl (lv_room (Nat.le_of_ble_eq_true rfl)) d_FL_heldState_1 ⟨Nat.le_of_ble_eq_true rfl, Nat.le_of_ble_eq_true rfl⟩) hS (fun q _ h => hFc q h) hFc (fun r u t H9 locs ht hvm hp hB hz1 hk1 hS => ?_)
  subst hp
  obtain ⟨hP, hD⟩ := va_join (wr := []) (w1 := [(h, .inr (1, [.ref hw, .int wl])), (hw, .inl (cI, 70, .inl w))]) hP hD [0, 1] [] rfl rfl (by decide) (by decide) hk1 hFc (ht ▸ hB.1) hB.2.2
  have hP := hP.sub (ws' := [(h, .inr (1, [.ref hw, .int wl])), (hw, .inl (cI, 70, .inl w))]) [0, 1] rfl
  have hD := hD.sub (ws' := [(h, .inr (1, [.ref hw, .int wl])), (hw, .inl (cI, 70, .inl w))]) [0, 1] (by decide) rfl
  generalize H9 = H at hP hS ⊢
  refine lv_istore_n (lv' := [(1, .int (f_FL_heldRecord wl w)), (0, .ref h)]) hx hb d_FL_heldState_4 rfl hl (by decide) rfl (fun ls hl => ?_)
  refine lv_iload_n hx hb d_FL_heldState_5 rfl (lv_at hl 0 rfl) ?_
  refine lv_iconst (v := (-1)) hx hb d_FL_heldState_6 (by decide) ?_
  refine lv_icmp_ne (tgt := 14) hx hb d_FL_heldState_7 (by decide) (fun h2 => ?_) (fun h2 => ?_)
  · refine lv_aload_n hx hb d_FL_heldState_14 rfl (lv_at hl 1 rfl) ?_
    refine lv_iconst (v := 4) hx hb d_FL_heldState_15 (by decide) ?_
    refine lv_iload_n hx hb d_FL_heldState_16 rfl (lv_at hl 0 rfl) ?_
    refine lv_iadd hx hb d_FL_heldState_17 ?_
    refine lv_iconst (v := 1) hx hb d_FL_heldState_18 (by decide) ?_
    have hPc := hP.sub (ws' := [(h, .inr (1, [.ref hw, .int wl])), (hw, .inl (cI, 70, .inl w))]) [0, 1] rfl
    have hDc := hD.sub (ws' := [(h, .inr (1, [.ref hw, .int wl])), (hw, .inl (cI, 70, .inl w))]) [0, 1] (by decide) rfl
    have hFc := va_free (wc := [(h, .inr (1, [.ref hw, .int wl])), (hw, .inl (cI, 70, .inl w))]) hD hS hA [0, 1] rfl
    refine va_calli (va_runV (As := [.int ((4 : Int32) + (f_FL_heldRecord wl w)), .int (1 : Int32)]) (rest := []) ⟨hx, hb, hml, hown, hts⟩ (c_FL_read l dC dI cI cJ h hw _ ((4 : Int32) + (f_FL_heldRecord wl w)) (1 : Int32) wl w (ix_rec (p_heldRecord _ _) (by assumption) (by decide))) ⟨callB_of 2 hts (bc_good gw_99) rfl rfl rfl (hts _ gw_2) (hts _ gw_96) (by decide +kernel) ⟨Nat.le_of_ble_eq_true rfl, Nat.le_of_ble_eq_true rfl⟩, (hts _ gw_97), (hts _ gw_98)⟩ ⟨bc_blind, va_recv (q0 := 0) hK hP (q := (R_FL, F_FL, 2)) rfl rfl, fun U hU hW => ⟨rfl, bc_give hPc hDc hK hE hS hFc U hU hW⟩⟩ rfl rfl hl.1 rfl (lv_room (Nat.le_of_ble_eq_true rfl)) d_FL_heldState_19 ⟨Nat.le_of_ble_eq_true rfl, Nat.le_of_ble_eq_true rfl⟩) hS (fun q _ h => hFc q h) hFc (fun r u t H9 locs ht hvm hp hB hz1 hk1 hS => ?_)
    subst hp
    obtain ⟨hP, hD⟩ := va_join (wr := []) (w1 := [(h, .inr (1, [.ref hw, .int wl])), (hw, .inl (cI, 70, .inl w))]) hP hD [0, 1] [] rfl rfl (by decide) (by decide) hk1 hFc (ht ▸ hB.1) hB.2.2
    have hP := hP.sub (ws' := [(h, .inr (1, [.ref hw, .int wl])), (hw, .inl (cI, 70, .inl w))]) [0, 1] rfl
    have hD := hD.sub (ws' := [(h, .inr (1, [.ref hw, .int wl])), (hw, .inl (cI, 70, .inl w))]) [0, 1] (by decide) rfl
    generalize H9 = H at hP hS ⊢
    have e0 : (f_FL_heldState wl w) = (f_FL_read ((4 : Int32) + (f_FL_heldRecord wl w)) (1 : Int32) wl w) := by rw [f_FL_heldState, if_neg h2]
    rw [e0]
    exact W.iret (v := (f_FL_read ((4 : Int32) + (f_FL_heldRecord wl w)) (1 : Int32) wl w)) hx hb hr (fun t ht hW => ⟨⟨(f_FL_read ((4 : Int32) + (f_FL_heldRecord wl w)) (1 : Int32) wl w), (), rfl, rfl, by rw [ht]; exact hP, va_K.moved hW.alike hK, hD⟩, hS.F ht⟩) hS.2.2 d_FL_heldState_22
  · refine lv_iconst (v := 0) hx hb d_FL_heldState_10 (by decide) ?_
    refine lv_goto (tgt := 22) hx hb d_FL_heldState_11 (by decide) ?_
    have e0 : (f_FL_heldState wl w) = (0 : Int32) := by rw [f_FL_heldState, if_pos h2]
    rw [e0]
    exact W.iret (v := (0 : Int32)) hx hb hr (fun t ht hW => ⟨⟨(0 : Int32), (), rfl, rfl, by rw [ht]; exact hP, va_K.moved hW.alike hK, hD⟩, hS.F ht⟩) hS.2.2 d_FL_heldState_22
-- FL_writeRecord
theorem d_FL_writeRecord_0 : decode prog_3_method_9_code 0 = .ok (.aload_n 0, 1) := by decide +kernel
theorem d_FL_writeRecord_1 : decode prog_3_method_9_code 1 = .ok (.invokevirtual 23, 3) := by decide +kernel
theorem d_FL_writeRecord_4 : decode prog_3_method_9_code 4 = .ok (.istore_n 2, 1) := by decide +kernel
theorem d_FL_writeRecord_5 : decode prog_3_method_9_code 5 = .ok (.iload_n 2, 1) := by decide +kernel
theorem d_FL_writeRecord_6 : decode prog_3_method_9_code 6 = .ok (.iconst (-1), 1) := by decide +kernel
theorem d_FL_writeRecord_7 : decode prog_3_method_9_code 7 = .ok (.if_icmp .ne 7, 3) := by decide +kernel
theorem d_FL_writeRecord_10 : decode prog_3_method_9_code 10 = .ok (.iconst 1, 1) := by decide +kernel
theorem d_FL_writeRecord_11 : decode prog_3_method_9_code 11 = .ok (.goto 13, 3) := by decide +kernel
theorem d_FL_writeRecord_14 : decode prog_3_method_9_code 14 = .ok (.aload_n 0, 1) := by decide +kernel
theorem d_FL_writeRecord_15 : decode prog_3_method_9_code 15 = .ok (.iconst 4, 1) := by decide +kernel
theorem d_FL_writeRecord_16 : decode prog_3_method_9_code 16 = .ok (.iload_n 2, 1) := by decide +kernel
theorem d_FL_writeRecord_17 : decode prog_3_method_9_code 17 = .ok (.iadd, 1) := by decide +kernel
theorem d_FL_writeRecord_18 : decode prog_3_method_9_code 18 = .ok (.iconst 0, 1) := by decide +kernel
theorem d_FL_writeRecord_19 : decode prog_3_method_9_code 19 = .ok (.invokevirtual 27, 3) := by decide +kernel
theorem d_FL_writeRecord_22 : decode prog_3_method_9_code 22 = .ok (.iconst 1, 1) := by decide +kernel
theorem d_FL_writeRecord_23 : decode prog_3_method_9_code 23 = .ok (.iadd, 1) := by decide +kernel
theorem d_FL_writeRecord_24 : decode prog_3_method_9_code 24 = .ok (.istore_n 3, 1) := by decide +kernel
theorem d_FL_writeRecord_25 : decode prog_3_method_9_code 25 = .ok (.iload_n 2, 1) := by decide +kernel
theorem d_FL_writeRecord_26 : decode prog_3_method_9_code 26 = .ok (.ifCond .ne 7, 3) := by decide +kernel
theorem d_FL_writeRecord_29 : decode prog_3_method_9_code 29 = .ok (.iconst 5, 1) := by decide +kernel
theorem d_FL_writeRecord_30 : decode prog_3_method_9_code 30 = .ok (.goto 4, 3) := by decide +kernel
theorem d_FL_writeRecord_33 : decode prog_3_method_9_code 33 = .ok (.iconst 4, 1) := by decide +kernel
theorem d_FL_writeRecord_34 : decode prog_3_method_9_code 34 = .ok (.istore 4, 2) := by decide +kernel
theorem d_FL_writeRecord_36 : decode prog_3_method_9_code 36 = .ok (.aload_n 0, 1) := by decide +kernel
theorem d_FL_writeRecord_37 : decode prog_3_method_9_code 37 = .ok (.iload 4, 2) := by decide +kernel
theorem d_FL_writeRecord_39 : decode prog_3_method_9_code 39 = .ok (.iconst 2, 1) := by decide +kernel
theorem d_FL_writeRecord_40 : decode prog_3_method_9_code 40 = .ok (.iconst 0, 1) := by decide +kernel
theorem d_FL_writeRecord_41 : decode prog_3_method_9_code 41 = .ok (.invokevirtual 30, 3) := by decide +kernel
theorem d_FL_writeRecord_44 : decode prog_3_method_9_code 44 = .ok (.ifCond .eq 44, 3) := by decide +kernel
theorem d_FL_writeRecord_47 : decode prog_3_method_9_code 47 = .ok (.aload_n 0, 1) := by decide +kernel
theorem d_FL_writeRecord_48 : decode prog_3_method_9_code 48 = .ok (.iload 4, 2) := by decide +kernel
theorem d_FL_writeRecord_50 : decode prog_3_method_9_code 50 = .ok (.iconst 0, 1) := by decide +kernel
theorem d_FL_writeRecord_51 : decode prog_3_method_9_code 51 = .ok (.iload_n 3, 1) := by decide +kernel
theorem d_FL_writeRecord_52 : decode prog_3_method_9_code 52 = .ok (.invokevirtual 30, 3) := by decide +kernel
theorem d_FL_writeRecord_55 : decode prog_3_method_9_code 55 = .ok (.ifCond .eq 33, 3) := by decide +kernel
theorem d_FL_writeRecord_58 : decode prog_3_method_9_code 58 = .ok (.aload_n 0, 1) := by decide +kernel
theorem d_FL_writeRecord_59 : decode prog_3_method_9_code 59 = .ok (.iload 4, 2) := by decide +kernel
theorem d_FL_writeRecord_61 : decode prog_3_method_9_code 61 = .ok (.iconst 1, 1) := by decide +kernel
theorem d_FL_writeRecord_62 : decode prog_3_method_9_code 62 = .ok (.iload_n 1, 1) := by decide +kernel
theorem d_FL_writeRecord_63 : decode prog_3_method_9_code 63 = .ok (.invokevirtual 30, 3) := by decide +kernel
theorem d_FL_writeRecord_66 : decode prog_3_method_9_code 66 = .ok (.ifCond .eq 22, 3) := by decide +kernel
theorem d_FL_writeRecord_69 : decode prog_3_method_9_code 69 = .ok (.aload_n 0, 1) := by decide +kernel
theorem d_FL_writeRecord_70 : decode prog_3_method_9_code 70 = .ok (.iload 4, 2) := by decide +kernel
theorem d_FL_writeRecord_72 : decode prog_3_method_9_code 72 = .ok (.iconst 2, 1) := by decide +kernel
theorem d_FL_writeRecord_73 : decode prog_3_method_9_code 73 = .ok (.iload_n 3, 1) := by decide +kernel
theorem d_FL_writeRecord_74 : decode prog_3_method_9_code 74 = .ok (.iload_n 1, 1) := by decide +kernel
theorem d_FL_writeRecord_75 : decode prog_3_method_9_code 75 = .ok (.invokestatic 34, 3) := by decide +kernel
theorem d_FL_writeRecord_78 : decode prog_3_method_9_code 78 = .ok (.invokevirtual 30, 3) := by decide +kernel
theorem d_FL_writeRecord_81 : decode prog_3_method_9_code 81 = .ok (.ifCond .eq 7, 3) := by decide +kernel
theorem d_FL_writeRecord_84 : decode prog_3_method_9_code 84 = .ok (.iconst 1, 1) := by decide +kernel
theorem d_FL_writeRecord_85 : decode prog_3_method_9_code 85 = .ok (.goto 4, 3) := by decide +kernel
theorem d_FL_writeRecord_88 : decode prog_3_method_9_code 88 = .ok (.iconst 0, 1) := by decide +kernel
theorem d_FL_writeRecord_89 : decode prog_3_method_9_code 89 = .ok (.ireturn, 1) := by decide +kernel
def y_FL_writeRecord : MethodName := ⟨"BootChain$Flash", "writeRecord", "(I)Z"⟩
def ws_FL_writeRecord : List Cond := .code y_FL_writeRecord prog_3_method_9_code 5 (some .boolean) :: bc_G
def f_FL_writeRecord_c4 (st : Int32) (wl : Int32) (w : Nat → Int32) (x3 : Int32) (t0 : Int32) (y0_1 : Int32) (y1 : Nat → Int32) (u1 : Int32 × Int32 × (Nat → Int32)) (u2 : Int32 × Int32 × (Nat → Int32)) (u3 : Int32 × Int32 × (Nat → Int32)) (u4 : Int32 × Int32 × (Nat → Int32)) : Int32 × Int32 × (Nat → Int32) := if (u4.1) = 0 then ((0 : Int32), (u4.2.1), (u4.2.2)) else ((1 : Int32), (u4.2.1), (u4.2.2))
def f_FL_writeRecord_c3 (st : Int32) (wl : Int32) (w : Nat → Int32) (x3 : Int32) (t0 : Int32) (y0_1 : Int32) (y1 : Nat → Int32) (u1 : Int32 × Int32 × (Nat → Int32)) (u2 : Int32 × Int32 × (Nat → Int32)) (u3 : Int32 × Int32 × (Nat → Int32)) : Int32 × Int32 × (Nat → Int32) := if (u3.1) = 0 then ((0 : Int32), (u3.2.1), (u3.2.2)) else f_FL_writeRecord_c4 st wl w x3 t0 y0_1 y1 u1 u2 u3 (f_FL_write t0 (2 : Int32) (f_FL_sumOf x3 st) (u3.2.1) (u3.2.2))
def f_FL_writeRecord_c2 (st : Int32) (wl : Int32) (w : Nat → Int32) (x3 : Int32) (t0 : Int32) (y0_1 : Int32) (y1 : Nat → Int32) (u1 : Int32 × Int32 × (Nat → Int32)) (u2 : Int32 × Int32 × (Nat → Int32)) : Int32 × Int32 × (Nat → Int32) := if (u2.1) = 0 then ((0 : Int32), (u2.2.1), (u2.2.2)) else f_FL_writeRecord_c3 st wl w x3 t0 y0_1 y1 u1 u2 (f_FL_write t0 (1 : Int32) st (u2.2.1) (u2.2.2))
def f_FL_writeRecord_c1 (st : Int32) (wl : Int32) (w : Nat → Int32) (x3 : Int32) (t0 : Int32) (y0_1 : Int32) (y1 : Nat → Int32) (u1 : Int32 × Int32 × (Nat → Int32)) : Int32 × Int32 × (Nat → Int32) := if (u1.1) = 0 then ((0 : Int32), (u1.2.1), (u1.2.2)) else f_FL_writeRecord_c2 st wl w x3 t0 y0_1 y1 u1 (f_FL_write t0 (0 : Int32) x3 (u1.2.1) (u1.2.2))
def f_FL_writeRecord_j34 (st : Int32) (wl : Int32) (w : Nat → Int32) (x3 : Int32) (t0 : Int32) (y0_1 : Int32) (y1 : Nat → Int32) : Int32 × Int32 × (Nat → Int32) := f_FL_writeRecord_c1 st wl w x3 t0 y0_1 y1 (f_FL_write t0 (2 : Int32) (0 : Int32) y0_1 y1)
def f_FL_writeRecord_j24 (st : Int32) (wl : Int32) (w : Nat → Int32) (x2 : Int32) (t0 : Int32) (y0_1 : Int32) (y1 : Nat → Int32) : Int32 × Int32 × (Nat → Int32) := if x2 = 0 then f_FL_writeRecord_j34 st wl w t0 (5 : Int32) y0_1 y1 else f_FL_writeRecord_j34 st wl w t0 (4 : Int32) y0_1 y1
def f_FL_writeRecord (st : Int32) (wl : Int32) (w : Nat → Int32) : Int32 × Int32 × (Nat → Int32) := if (f_FL_heldRecord wl w) = (-1 : Int32) then f_FL_writeRecord_j24 st wl w (f_FL_heldRecord wl w) (1 : Int32) wl w else f_FL_writeRecord_j24 st wl w (f_FL_heldRecord wl w) ((f_FL_read ((4 : Int32) + (f_FL_heldRecord wl w)) (0 : Int32) wl w) + (1 : Int32)) wl w
theorem ix_pl {x k : Int32} (h : x = 5 ∨ x = 4) (hk : k = 0 ∨ k = 1 ∨ k = 2) : vp_in (f_FL_indexOf x k) 70 := by
  rcases h with rfl | rfl <;> rcases hk with rfl | rfl | rfl <;> (unfold vp_in; decide +kernel)
set_option maxHeartbeats 4000000 in
set_option maxRecDepth 100000 in
theorem c_FL_writeRecord (l : Launch) (dC : Nat → ClassId) (dI : Nat → Nat → Nat) (cI cJ : ClassId) (h hw : Nat) (sz : Nat) (st : Int32) (wl : Int32) (w : Nat → Int32) : Met l y_FL_writeRecord ws_FL_writeRecord ({ frames := 4, cells := 0, slots := 0, locals := 86 } : Room) (va_Pc [.ref h, .int st] (bc_pre (dC, dI) cI cJ [(h, .inr (1, [.ref hw, .int wl])), (hw, .inl (cI, 70, .inl w))] sz)) (va_Qi (fun (r : Int32) (_ : Unit) => r = (f_FL_writeRecord st wl w).1) (fun _ => bc_post (dC, dI) cI cJ (va_A [(h, .inr (1, [.ref hw, .int wl])), (hw, .inl (cI, 70, .inl w))] sz) [(h, .inr (1, [.ref hw, .int (f_FL_writeRecord st wl w).2.1])), (hw, .inl (cI, 70, .inl (f_FL_writeRecord st wl w).2.2))]) (va_A [(h, .inr (1, [.ref hw, .int wl])), (hw, .inl (cI, 70, .inl w))] sz)) 0 0 (va_A [(h, .inr (1, [.ref hw, .int wl])), (hw, .inl (cI, 70, .inl w))] sz) := by
  refine Met.ofW (cc := prog_3_method_9_code) (maxL := 5) (ret := (some .boolean)) (by decide) rfl ?_
  intro p e s m args below meth c s₁ B hml hv
  obtain ⟨rfl, hsz, hP, hK, hD0, hE⟩ := hv
  have hx := B.exec
  have hb := B.bytes
  have hr := B.returns
  have hts : ∀ w ∈ bc_G, w.before ([.ref h, .int st] : List Value).toArray s = true := fun w h => atoms_spec (ws := ws_FL_writeRecord) B.pre w (List.mem_cons_of_mem _ h)
  have hown : s.vm.findClass "BootChain$Flash" = some m.cls := findClass_of_methodNamed B.named
  have hlocks := B.notSynchronized
  subst hsz
  have hD := hD0.self (sz := s.heap.size)
  generalize hAe : va_A [(h, .inr (1, [.ref hw, .int wl])), (hw, .inl (cI, 70, .inl w))] s.heap.size = A at hD hE ⊢
  have hA : ∀ q : Nat, s.heap.size ≤ q → A q := fun q h => by rw [← hAe]; exact Or.inr h
  have hS : va_S A s.heap s.heap [] := va_S.rf
  have jn_34 : ∀ (x3 : Int32) (t0 : Int32) (y0_1 : Int32) (y1 : Nat → Int32) (H : Heap) (locs : List Loc) (ls : Array Slot), (t0 = 5 ∨ t0 = 4) → lv_has ls 5 [(0, .ref h), (1, .int st), (3, .int x3)] → va_P (dC, dI) classes [(h, .inr (1, [.ref hw, .int y0_1])), (hw, .inl (cI, 70, .inl y1))] H → va_D A [(h, .inr (1, [.ref hw, .int y0_1])), (hw, .inl (cI, 70, .inl y1))] → va_S A s.heap H locs → W p l e (headSpec ws_FL_writeRecord ({ frames := 4, cells := 0, slots := 0, locals := 86 } : Room)).room s m ([.ref h, .int st] : List Value).toArray below meth c H locs 0 0 (MQ below (va_Qi (fun (r : Int32) (_ : Unit) => r = (f_FL_writeRecord_j34 st wl w x3 t0 y0_1 y1).1) (fun _ => bc_post (dC, dI) cI cJ A [(h, .inr (1, [.ref hw, .int (f_FL_writeRecord_j34 st wl w x3 t0 y0_1 y1).2.1])), (hw, .inl (cI, 70, .inl (f_FL_writeRecord_j34 st wl w x3 t0 y0_1 y1).2.2))]) A) ([.ref h, .int st] : List Value).toArray s 0 0 A) (F0 m 34 ls [.int t0]) := by
    intro x3 t0 y0_1 y1 H locs ls hJ hl hP hD hS
    refine lv_istore (lv' := [(4, .int t0), (0, .ref h), (1, .int st), (3, .int x3)]) hx hb d_FL_writeRecord_34 hl (by decide) rfl (fun ls hl => ?_)
    refine lv_aload_n hx hb d_FL_writeRecord_36 rfl (lv_at hl 1 rfl) ?_
    refine lv_iload hx hb d_FL_writeRecord_37 (lv_at hl 0 rfl) ?_
    refine lv_iconst (v := 2) hx hb d_FL_writeRecord_39 (by decide) ?_
    refine lv_iconst (v := 0) hx hb d_FL_writeRecord_40 (by decide) ?_
    have hPc := hP.sub (ws' := [(h, .inr (1, [.ref hw, .int y0_1])), (hw, .inl (cI, 70, .inl y1))]) [0, 1] rfl
    have hDc := hD.sub (ws' := [(h, .inr (1, [.ref hw, .int y0_1])), (hw, .inl (cI, 70, .inl y1))]) [0, 1] (by decide) rfl
    have hFc := va_free (wc := [(h, .inr (1, [.ref hw, .int y0_1])), (hw, .inl (cI, 70, .inl y1))]) hD hS hA [0, 1] rfl
    refine va_calli (va_runV (As := [.int t0, .int (2 : Int32), .int (0 : Int32)]) (rest := []) ⟨hx, hb, hml, hown, hts⟩ (c_FL_write l dC dI cI cJ h hw _ t0 (2 : Int32) (0 : Int32) y0_1 y1 (ix_pl hJ (by decide))) ⟨callB_of 3 hts (bc_good gw_279) rfl rfl rfl (hts _ gw_2) (hts _ gw_284) (by decide +kernel) ⟨Nat.le_of_ble_eq_true rfl, Nat.le_of_ble_eq_true rfl⟩, (hts _ gw_277), (hts _ gw_278)⟩ ⟨bc_blind, va_recv (q0 := 0) hK hP (q := (R_FL, F_FL, 2)) rfl rfl, fun U hU hW => ⟨rfl, bc_give hPc hDc hK hE hS hFc U hU hW⟩⟩ rfl rfl hl.1 rfl (lv_room (Nat.le_of_ble_eq_true rfl)) d_FL_writeRecord_41 ⟨Nat.le_of_ble_eq_true rfl, Nat.le_of_ble_eq_true rfl⟩) hS (fun q _ h => hFc q h) hFc (fun r u t H9 locs ht hvm hp hB hz1 hk1 hS => ?_)
    subst hp
    obtain ⟨hP, hD⟩ := va_join (wr := []) (w1 := [(h, .inr (1, [.ref hw, .int ((f_FL_write t0 (2 : Int32) (0 : Int32) y0_1 y1).2.1)])), (hw, .inl (cI, 70, .inl ((f_FL_write t0 (2 : Int32) (0 : Int32) y0_1 y1).2.2)))]) hP hD [0, 1] [] rfl rfl (by decide) (by decide) hk1 hFc (ht ▸ hB.1) hB.2.2
    have hP := hP.sub (ws' := [(h, .inr (1, [.ref hw, .int ((f_FL_write t0 (2 : Int32) (0 : Int32) y0_1 y1).2.1)])), (hw, .inl (cI, 70, .inl ((f_FL_write t0 (2 : Int32) (0 : Int32) y0_1 y1).2.2)))]) [0, 1] rfl
    have hD := hD.sub (ws' := [(h, .inr (1, [.ref hw, .int ((f_FL_write t0 (2 : Int32) (0 : Int32) y0_1 y1).2.1)])), (hw, .inl (cI, 70, .inl ((f_FL_write t0 (2 : Int32) (0 : Int32) y0_1 y1).2.2)))]) [0, 1] (by decide) rfl
    generalize H9 = H at hP hS ⊢
    have e0 : (f_FL_writeRecord_j34 st wl w x3 t0 y0_1 y1) = f_FL_writeRecord_c1 st wl w x3 t0 y0_1 y1 (f_FL_write t0 (2 : Int32) (0 : Int32) y0_1 y1) := by rw [f_FL_writeRecord_j34]
    rw [e0]
    generalize hu1 : (f_FL_write t0 (2 : Int32) (0 : Int32) y0_1 y1) = u1 at hP hD ⊢
    have hP : va_P (dC, dI) classes [(h, .inr (1, [.ref hw, .int (u1.2.1)])), (hw, .inl (cI, 70, .inl (u1.2.2)))] H := hP
    have hD : va_D A [(h, .inr (1, [.ref hw, .int (u1.2.1)])), (hw, .inl (cI, 70, .inl (u1.2.2)))] := hD
    refine lv_if_eq (tgt := 88) hx hb d_FL_writeRecord_44 (by decide) (fun h9 => ?_) (fun h9 => ?_)
    · refine lv_iconst (v := 0) hx hb d_FL_writeRecord_88 (by decide) ?_
      have e0 : (f_FL_writeRecord_c1 st wl w x3 t0 y0_1 y1 u1) = ((0 : Int32), (u1.2.1), (u1.2.2)) := by rw [f_FL_writeRecord_c1, if_pos h9]
      rw [e0]
      exact W.zret (v := (0 : Int32)) (ty := .boolean) hx hb hr (rfl) (fun t ht hW => ⟨⟨(0 : Int32), (), rfl, rfl, by rw [ht]; exact hP, va_K.moved hW.alike hK, hD⟩, hS.F ht⟩) hS.2.2 d_FL_writeRecord_89
    · refine lv_aload_n hx hb d_FL_writeRecord_47 rfl (lv_at hl 1 rfl) ?_
      refine lv_iload hx hb d_FL_writeRecord_48 (lv_at hl 0 rfl) ?_
      refine lv_iconst (v := 0) hx hb d_FL_writeRecord_50 (by decide) ?_
      refine lv_iload_n hx hb d_FL_writeRecord_51 rfl (lv_at hl 3 rfl) ?_
      have hPc := hP.sub (ws' := [(h, .inr (1, [.ref hw, .int (u1.2.1)])), (hw, .inl (cI, 70, .inl (u1.2.2)))]) [0, 1] rfl
      have hDc := hD.sub (ws' := [(h, .inr (1, [.ref hw, .int (u1.2.1)])), (hw, .inl (cI, 70, .inl (u1.2.2)))]) [0, 1] (by decide) rfl
      have hFc := va_free (wc := [(h, .inr (1, [.ref hw, .int (u1.2.1)])), (hw, .inl (cI, 70, .inl (u1.2.2)))]) hD hS hA [0, 1] rfl
      refine va_calli (va_runV (As := [.int t0, .int (0 : Int32), .int x3]) (rest := []) ⟨hx, hb, hml, hown, hts⟩ (c_FL_write l dC dI cI cJ h hw _ t0 (0 : Int32) x3 (u1.2.1) (u1.2.2) (ix_pl hJ (by decide))) ⟨callB_of 3 hts (bc_good gw_279) rfl rfl rfl (hts _ gw_2) (hts _ gw_284) (by decide +kernel) ⟨Nat.le_of_ble_eq_true rfl, Nat.le_of_ble_eq_true rfl⟩, (hts _ gw_277), (hts _ gw_278)⟩ ⟨bc_blind, va_recv (q0 := 0) hK hP (q := (R_FL, F_FL, 2)) rfl rfl, fun U hU hW => ⟨rfl, bc_give hPc hDc hK hE hS hFc U hU hW⟩⟩ rfl rfl hl.1 rfl (lv_room (Nat.le_of_ble_eq_true rfl)) d_FL_writeRecord_52 ⟨Nat.le_of_ble_eq_true rfl, Nat.le_of_ble_eq_true rfl⟩) hS (fun q _ h => hFc q h) hFc (fun r u t H9 locs ht hvm hp hB hz1 hk1 hS => ?_)
      subst hp
      obtain ⟨hP, hD⟩ := va_join (wr := []) (w1 := [(h, .inr (1, [.ref hw, .int ((f_FL_write t0 (0 : Int32) x3 (u1.2.1) (u1.2.2)).2.1)])), (hw, .inl (cI, 70, .inl ((f_FL_write t0 (0 : Int32) x3 (u1.2.1) (u1.2.2)).2.2)))]) hP hD [0, 1] [] rfl rfl (by decide) (by decide) hk1 hFc (ht ▸ hB.1) hB.2.2
      have hP := hP.sub (ws' := [(h, .inr (1, [.ref hw, .int ((f_FL_write t0 (0 : Int32) x3 (u1.2.1) (u1.2.2)).2.1)])), (hw, .inl (cI, 70, .inl ((f_FL_write t0 (0 : Int32) x3 (u1.2.1) (u1.2.2)).2.2)))]) [0, 1] rfl
      have hD := hD.sub (ws' := [(h, .inr (1, [.ref hw, .int ((f_FL_write t0 (0 : Int32) x3 (u1.2.1) (u1.2.2)).2.1)])), (hw, .inl (cI, 70, .inl ((f_FL_write t0 (0 : Int32) x3 (u1.2.1) (u1.2.2)).2.2)))]) [0, 1] (by decide) rfl
      generalize H9 = H at hP hS ⊢
      have e0 : (f_FL_writeRecord_c1 st wl w x3 t0 y0_1 y1 u1) = f_FL_writeRecord_c2 st wl w x3 t0 y0_1 y1 u1 (f_FL_write t0 (0 : Int32) x3 (u1.2.1) (u1.2.2)) := by rw [f_FL_writeRecord_c1, if_neg h9]
      rw [e0]
      generalize hu2 : (f_FL_write t0 (0 : Int32) x3 (u1.2.1) (u1.2.2)) = u2 at hP hD ⊢
      have hP : va_P (dC, dI) classes [(h, .inr (1, [.ref hw, .int (u2.2.1)])), (hw, .inl (cI, 70, .inl (u2.2.2)))] H := hP
      have hD : va_D A [(h, .inr (1, [.ref hw, .int (u2.2.1)])), (hw, .inl (cI, 70, .inl (u2.2.2)))] := hD
      refine lv_if_eq (tgt := 88) hx hb d_FL_writeRecord_55 (by decide) (fun h10 => ?_) (fun h10 => ?_)
      · refine lv_iconst (v := 0) hx hb d_FL_writeRecord_88 (by decide) ?_
        have e0 : (f_FL_writeRecord_c2 st wl w x3 t0 y0_1 y1 u1 u2) = ((0 : Int32), (u2.2.1), (u2.2.2)) := by rw [f_FL_writeRecord_c2, if_pos h10]
        rw [e0]
        exact W.zret (v := (0 : Int32)) (ty := .boolean) hx hb hr (rfl) (fun t ht hW => ⟨⟨(0 : Int32), (), rfl, rfl, by rw [ht]; exact hP, va_K.moved hW.alike hK, hD⟩, hS.F ht⟩) hS.2.2 d_FL_writeRecord_89
      · refine lv_aload_n hx hb d_FL_writeRecord_58 rfl (lv_at hl 1 rfl) ?_
        refine lv_iload hx hb d_FL_writeRecord_59 (lv_at hl 0 rfl) ?_
        refine lv_iconst (v := 1) hx hb d_FL_writeRecord_61 (by decide) ?_
        refine lv_iload_n hx hb d_FL_writeRecord_62 rfl (lv_at hl 2 rfl) ?_
        have hPc := hP.sub (ws' := [(h, .inr (1, [.ref hw, .int (u2.2.1)])), (hw, .inl (cI, 70, .inl (u2.2.2)))]) [0, 1] rfl
        have hDc := hD.sub (ws' := [(h, .inr (1, [.ref hw, .int (u2.2.1)])), (hw, .inl (cI, 70, .inl (u2.2.2)))]) [0, 1] (by decide) rfl
        have hFc := va_free (wc := [(h, .inr (1, [.ref hw, .int (u2.2.1)])), (hw, .inl (cI, 70, .inl (u2.2.2)))]) hD hS hA [0, 1] rfl
        refine va_calli (va_runV (As := [.int t0, .int (1 : Int32), .int st]) (rest := []) ⟨hx, hb, hml, hown, hts⟩ (c_FL_write l dC dI cI cJ h hw _ t0 (1 : Int32) st (u2.2.1) (u2.2.2) (ix_pl hJ (by decide))) ⟨callB_of 3 hts (bc_good gw_279) rfl rfl rfl (hts _ gw_2) (hts _ gw_284) (by decide +kernel) ⟨Nat.le_of_ble_eq_true rfl, Nat.le_of_ble_eq_true rfl⟩, (hts _ gw_277), (hts _ gw_278)⟩ ⟨bc_blind, va_recv (q0 := 0) hK hP (q := (R_FL, F_FL, 2)) rfl rfl, fun U hU hW => ⟨rfl, bc_give hPc hDc hK hE hS hFc U hU hW⟩⟩ rfl rfl hl.1 rfl (lv_room (Nat.le_of_ble_eq_true rfl)) d_FL_writeRecord_63 ⟨Nat.le_of_ble_eq_true rfl, Nat.le_of_ble_eq_true rfl⟩) hS (fun q _ h => hFc q h) hFc (fun r u t H9 locs ht hvm hp hB hz1 hk1 hS => ?_)
        subst hp
        obtain ⟨hP, hD⟩ := va_join (wr := []) (w1 := [(h, .inr (1, [.ref hw, .int ((f_FL_write t0 (1 : Int32) st (u2.2.1) (u2.2.2)).2.1)])), (hw, .inl (cI, 70, .inl ((f_FL_write t0 (1 : Int32) st (u2.2.1) (u2.2.2)).2.2)))]) hP hD [0, 1] [] rfl rfl (by decide) (by decide) hk1 hFc (ht ▸ hB.1) hB.2.2
        have hP := hP.sub (ws' := [(h, .inr (1, [.ref hw, .int ((f_FL_write t0 (1 : Int32) st (u2.2.1) (u2.2.2)).2.1)])), (hw, .inl (cI, 70, .inl ((f_FL_write t0 (1 : Int32) st (u2.2.1) (u2.2.2)).2.2)))]) [0, 1] rfl
        have hD := hD.sub (ws' := [(h, .inr (1, [.ref hw, .int ((f_FL_write t0 (1 : Int32) st (u2.2.1) (u2.2.2)).2.1)])), (hw, .inl (cI, 70, .inl ((f_FL_write t0 (1 : Int32) st (u2.2.1) (u2.2.2)).2.2)))]) [0, 1] (by decide) rfl
        generalize H9 = H at hP hS ⊢
        have e0 : (f_FL_writeRecord_c2 st wl w x3 t0 y0_1 y1 u1 u2) = f_FL_writeRecord_c3 st wl w x3 t0 y0_1 y1 u1 u2 (f_FL_write t0 (1 : Int32) st (u2.2.1) (u2.2.2)) := by rw [f_FL_writeRecord_c2, if_neg h10]
        rw [e0]
        generalize hu3 : (f_FL_write t0 (1 : Int32) st (u2.2.1) (u2.2.2)) = u3 at hP hD ⊢
        have hP : va_P (dC, dI) classes [(h, .inr (1, [.ref hw, .int (u3.2.1)])), (hw, .inl (cI, 70, .inl (u3.2.2)))] H := hP
        have hD : va_D A [(h, .inr (1, [.ref hw, .int (u3.2.1)])), (hw, .inl (cI, 70, .inl (u3.2.2)))] := hD
        refine lv_if_eq (tgt := 88) hx hb d_FL_writeRecord_66 (by decide) (fun h11 => ?_) (fun h11 => ?_)
        · refine lv_iconst (v := 0) hx hb d_FL_writeRecord_88 (by decide) ?_
          have e0 : (f_FL_writeRecord_c3 st wl w x3 t0 y0_1 y1 u1 u2 u3) = ((0 : Int32), (u3.2.1), (u3.2.2)) := by rw [f_FL_writeRecord_c3, if_pos h11]
          rw [e0]
          exact W.zret (v := (0 : Int32)) (ty := .boolean) hx hb hr (rfl) (fun t ht hW => ⟨⟨(0 : Int32), (), rfl, rfl, by rw [ht]; exact hP, va_K.moved hW.alike hK, hD⟩, hS.F ht⟩) hS.2.2 d_FL_writeRecord_89
        · refine lv_aload_n hx hb d_FL_writeRecord_69 rfl (lv_at hl 1 rfl) ?_
          refine lv_iload hx hb d_FL_writeRecord_70 (lv_at hl 0 rfl) ?_
          refine lv_iconst (v := 2) hx hb d_FL_writeRecord_72 (by decide) ?_
          refine lv_iload_n hx hb d_FL_writeRecord_73 rfl (lv_at hl 3 rfl) ?_
          refine lv_iload_n hx hb d_FL_writeRecord_74 rfl (lv_at hl 2 rfl) ?_
          have hPc := hP.sub (ws' := []) [] rfl
          have hDc := hD.sub (ws' := []) [] (by decide) rfl
          have hFc := va_free (wc := []) hD hS hA [] rfl
          refine va_calli (va_runS (As := [.int x3, .int st]) (rest := [.int (2 : Int32), .int t0, .ref h]) ⟨hx, hb, hml, hown, hts⟩ (c_FL_sumOf l dC dI cI cJ _ x3 st) ⟨callB_of 2 hts (bc_good gw_105) rfl rfl rfl (hts _ gw_2) (hts _ gw_103) (by decide +kernel) ⟨Nat.le_of_ble_eq_true rfl, Nat.le_of_ble_eq_true rfl⟩, (hts _ gw_104)⟩ ⟨bc_blind, fun U hU hW => ⟨rfl, bc_give hPc hDc hK hE hS hFc U hU hW⟩⟩ rfl rfl hl.1 rfl (lv_room (Nat.le_of_ble_eq_true rfl)) d_FL_writeRecord_75 ⟨Nat.le_of_ble_eq_true rfl, Nat.le_of_ble_eq_true rfl⟩) hS (fun q _ h => hFc q h) hFc (fun r u t H9 locs ht hvm hp hB hz1 hk1 hS => ?_)
          subst hp
          obtain ⟨hP, hD⟩ := va_join (wr := [(h, .inr (1, [.ref hw, .int (u3.2.1)])), (hw, .inl (cI, 70, .inl (u3.2.2)))]) (w1 := []) hP hD [] [0, 1] rfl rfl (by decide) (by decide) hk1 hFc (ht ▸ hB.1) hB.2.2
          have hP := hP.sub (ws' := [(h, .inr (1, [.ref hw, .int (u3.2.1)])), (hw, .inl (cI, 70, .inl (u3.2.2)))]) [0, 1] rfl
          have hD := hD.sub (ws' := [(h, .inr (1, [.ref hw, .int (u3.2.1)])), (hw, .inl (cI, 70, .inl (u3.2.2)))]) [0, 1] (by decide) rfl
          generalize H9 = H at hP hS ⊢
          have hPc := hP.sub (ws' := [(h, .inr (1, [.ref hw, .int (u3.2.1)])), (hw, .inl (cI, 70, .inl (u3.2.2)))]) [0, 1] rfl
          have hDc := hD.sub (ws' := [(h, .inr (1, [.ref hw, .int (u3.2.1)])), (hw, .inl (cI, 70, .inl (u3.2.2)))]) [0, 1] (by decide) rfl
          have hFc := va_free (wc := [(h, .inr (1, [.ref hw, .int (u3.2.1)])), (hw, .inl (cI, 70, .inl (u3.2.2)))]) hD hS hA [0, 1] rfl
          refine va_calli (va_runV (As := [.int t0, .int (2 : Int32), .int (f_FL_sumOf x3 st)]) (rest := []) ⟨hx, hb, hml, hown, hts⟩ (c_FL_write l dC dI cI cJ h hw _ t0 (2 : Int32) (f_FL_sumOf x3 st) (u3.2.1) (u3.2.2) (ix_pl hJ (by decide))) ⟨callB_of 3 hts (bc_good gw_279) rfl rfl rfl (hts _ gw_2) (hts _ gw_284) (by decide +kernel) ⟨Nat.le_of_ble_eq_true rfl, Nat.le_of_ble_eq_true rfl⟩, (hts _ gw_277), (hts _ gw_278)⟩ ⟨bc_blind, va_recv (q0 := 0) hK hP (q := (R_FL, F_FL, 2)) rfl rfl, fun U hU hW => ⟨rfl, bc_give hPc hDc hK hE hS hFc U hU hW⟩⟩ rfl rfl hl.1 rfl (lv_room (Nat.le_of_ble_eq_true rfl)) d_FL_writeRecord_78 ⟨Nat.le_of_ble_eq_true rfl, Nat.le_of_ble_eq_true rfl⟩) hS (fun q _ h => hFc q h) hFc (fun r u t H9 locs ht hvm hp hB hz1 hk1 hS => ?_)
          subst hp
          obtain ⟨hP, hD⟩ := va_join (wr := []) (w1 := [(h, .inr (1, [.ref hw, .int ((f_FL_write t0 (2 : Int32) (f_FL_sumOf x3 st) (u3.2.1) (u3.2.2)).2.1)])), (hw, .inl (cI, 70, .inl ((f_FL_write t0 (2 : Int32) (f_FL_sumOf x3 st) (u3.2.1) (u3.2.2)).2.2)))]) hP hD [0, 1] [] rfl rfl (by decide) (by decide) hk1 hFc (ht ▸ hB.1) hB.2.2
          have hP := hP.sub (ws' := [(h, .inr (1, [.ref hw, .int ((f_FL_write t0 (2 : Int32) (f_FL_sumOf x3 st) (u3.2.1) (u3.2.2)).2.1)])), (hw, .inl (cI, 70, .inl ((f_FL_write t0 (2 : Int32) (f_FL_sumOf x3 st) (u3.2.1) (u3.2.2)).2.2)))]) [0, 1] rfl
          have hD := hD.sub (ws' := [(h, .inr (1, [.ref hw, .int ((f_FL_write t0 (2 : Int32) (f_FL_sumOf x3 st) (u3.2.1) (u3.2.2)).2.1)])), (hw, .inl (cI, 70, .inl ((f_FL_write t0 (2 : Int32) (f_FL_sumOf x3 st) (u3.2.1) (u3.2.2)).2.2)))]) [0, 1] (by decide) rfl
          generalize H9 = H at hP hS ⊢
          have e0 : (f_FL_writeRecord_c3 st wl w x3 t0 y0_1 y1 u1 u2 u3) = f_FL_writeRecord_c4 st wl w x3 t0 y0_1 y1 u1 u2 u3 (f_FL_write t0 (2 : Int32) (f_FL_sumOf x3 st) (u3.2.1) (u3.2.2)) := by rw [f_FL_writeRecord_c3, if_neg h11]
          rw [e0]
          generalize hu4 : (f_FL_write t0 (2 : Int32) (f_FL_sumOf x3 st) (u3.2.1) (u3.2.2)) = u4 at hP hD ⊢
          have hP : va_P (dC, dI) classes [(h, .inr (1, [.ref hw, .int (u4.2.1)])), (hw, .inl (cI, 70, .inl (u4.2.2)))] H := hP
          have hD : va_D A [(h, .inr (1, [.ref hw, .int (u4.2.1)])), (hw, .inl (cI, 70, .inl (u4.2.2)))] := hD
          refine lv_if_eq (tgt := 88) hx hb d_FL_writeRecord_81 (by decide) (fun h12 => ?_) (fun h12 => ?_)
          · refine lv_iconst (v := 0) hx hb d_FL_writeRecord_88 (by decide) ?_
            have e0 : (f_FL_writeRecord_c4 st wl w x3 t0 y0_1 y1 u1 u2 u3 u4) = ((0 : Int32), (u4.2.1), (u4.2.2)) := by rw [f_FL_writeRecord_c4, if_pos h12]
            rw [e0]
            exact W.zret (v := (0 : Int32)) (ty := .boolean) hx hb hr (rfl) (fun t ht hW => ⟨⟨(0 : Int32), (), rfl, rfl, by rw [ht]; exact hP, va_K.moved hW.alike hK, hD⟩, hS.F ht⟩) hS.2.2 d_FL_writeRecord_89
          · refine lv_iconst (v := 1) hx hb d_FL_writeRecord_84 (by decide) ?_
            refine lv_goto (tgt := 89) hx hb d_FL_writeRecord_85 (by decide) ?_
            have e0 : (f_FL_writeRecord_c4 st wl w x3 t0 y0_1 y1 u1 u2 u3 u4) = ((1 : Int32), (u4.2.1), (u4.2.2)) := by rw [f_FL_writeRecord_c4, if_neg h12]
            rw [e0]
            exact W.zret (v := (1 : Int32)) (ty := .boolean) hx hb hr (rfl) (fun t ht hW => ⟨⟨(1 : Int32), (), rfl, rfl, by rw [ht]; exact hP, va_K.moved hW.alike hK, hD⟩, hS.F ht⟩) hS.2.2 d_FL_writeRecord_89
  have jn_24 : ∀ (x2 : Int32) (t0 : Int32) (y0_1 : Int32) (y1 : Nat → Int32) (H : Heap) (locs : List Loc) (ls : Array Slot), lv_has ls 5 [(0, .ref h), (1, .int st), (2, .int x2)] → va_P (dC, dI) classes [(h, .inr (1, [.ref hw, .int y0_1])), (hw, .inl (cI, 70, .inl y1))] H → va_D A [(h, .inr (1, [.ref hw, .int y0_1])), (hw, .inl (cI, 70, .inl y1))] → va_S A s.heap H locs → W p l e (headSpec ws_FL_writeRecord ({ frames := 4, cells := 0, slots := 0, locals := 86 } : Room)).room s m ([.ref h, .int st] : List Value).toArray below meth c H locs 0 0 (MQ below (va_Qi (fun (r : Int32) (_ : Unit) => r = (f_FL_writeRecord_j24 st wl w x2 t0 y0_1 y1).1) (fun _ => bc_post (dC, dI) cI cJ A [(h, .inr (1, [.ref hw, .int (f_FL_writeRecord_j24 st wl w x2 t0 y0_1 y1).2.1])), (hw, .inl (cI, 70, .inl (f_FL_writeRecord_j24 st wl w x2 t0 y0_1 y1).2.2))]) A) ([.ref h, .int st] : List Value).toArray s 0 0 A) (F0 m 24 ls [.int t0]) := by
    intro x2 t0 y0_1 y1 H locs ls hl hP hD hS
    refine lv_istore_n (lv' := [(3, .int t0), (0, .ref h), (1, .int st), (2, .int x2)]) hx hb d_FL_writeRecord_24 rfl hl (by decide) rfl (fun ls hl => ?_)
    refine lv_iload_n hx hb d_FL_writeRecord_25 rfl (lv_at hl 3 rfl) ?_
    refine lv_if_ne (tgt := 33) hx hb d_FL_writeRecord_26 (by decide) (fun h8 => ?_) (fun h8 => ?_)
    · refine lv_iconst (v := 4) hx hb d_FL_writeRecord_33 (by decide) ?_
      have e0 : (f_FL_writeRecord_j24 st wl w x2 t0 y0_1 y1) = f_FL_writeRecord_j34 st wl w t0 (4 : Int32) y0_1 y1 := by rw [f_FL_writeRecord_j24, if_neg h8]
      rw [e0]
      exact jn_34 t0 (4 : Int32) y0_1 y1 _ _ ls (by simp) (lv_sub hl [1, 2, 0] rfl) hP hD hS
    · refine lv_iconst (v := 5) hx hb d_FL_writeRecord_29 (by decide) ?_
      refine lv_goto (tgt := 34) hx hb d_FL_writeRecord_30 (by decide) ?_
      have e0 : (f_FL_writeRecord_j24 st wl w x2 t0 y0_1 y1) = f_FL_writeRecord_j34 st wl w t0 (5 : Int32) y0_1 y1 := by rw [f_FL_writeRecord_j24, if_pos h8]
      rw [e0]
      exact jn_34 t0 (5 : Int32) y0_1 y1 _ _ ls (by simp) (lv_sub hl [1, 2, 0] rfl) hP hD hS
  have hl := lv_entry ([.ref h, .int st]) (n := 5) (Nat.le_of_ble_eq_true rfl)
  rw [lg_entry_eq]
  generalize (lg_sl ([.ref h, .int st]) ++ List.replicate (5 - (lg_sl ([.ref h, .int st])).length) Slot.unset).toArray = ls at hl ⊢
  have hl : lv_has ls 5 [(0, .ref h), (1, .int st)] := hl
  refine lv_aload_n hx hb d_FL_writeRecord_0 rfl (lv_at hl 0 rfl) ?_
  have hPc := hP.sub (ws' := [(h, .inr (1, [.ref hw, .int wl])), (hw, .inl (cI, 70, .inl w))]) [0, 1] rfl
  have hDc := hD.sub (ws' := [(h, .inr (1, [.ref hw, .int wl])), (hw, .inl (cI, 70, .inl w))]) [0, 1] (by decide) rfl
  have hFc := va_free (wc := [(h, .inr (1, [.ref hw, .int wl])), (hw, .inl (cI, 70, .inl w))]) hD hS hA [0, 1] rfl
  refine va_calli (va_runV (As := []) (rest := []) ⟨hx, hb, hml, hown, hts⟩ (c_FL_heldRecord l dC dI cI cJ h hw _ wl w) ⟨callB_of 0 hts (bc_good gw_92) rfl rfl rfl (hts _ gw_2) (hts _ gw_90) (by decide +kernel) ⟨Nat.le_of_ble_eq_true rfl, Nat.le_of_ble_eq_true rfl⟩, (hts _ gw_91), (hts _ gw_689)⟩ ⟨bc_blind, va_recv (q0 := 0) hK hP (q := (R_FL, F_FL, 2)) rfl rfl, fun U hU hW => ⟨rfl, bc_give hPc hDc hK hE hS hFc U hU hW⟩⟩ rfl rfl hl.1 rfl (lv_room (Nat.le_of_ble_eq_true rfl)) d_FL_writeRecord_1 ⟨Nat.le_of_ble_eq_true rfl, Nat.le_of_ble_eq_true rfl⟩) hS (fun q _ h => hFc q h) hFc (fun r u t H9 locs ht hvm hp hB hz1 hk1 hS => ?_)
  subst hp
  obtain ⟨hP, hD⟩ := va_join (wr := []) (w1 := [(h, .inr (1, [.ref hw, .int wl])), (hw, .inl (cI, 70, .inl w))]) hP hD [0, 1] [] rfl rfl (by decide) (by decide) hk1 hFc (ht ▸ hB.1) hB.2.2
  have hP := hP.sub (ws' := [(h, .inr (1, [.ref hw, .int wl])), (hw, .inl (cI, 70, .inl w))]) [0, 1] rfl
  have hD := hD.sub (ws' := [(h, .inr (1, [.ref hw, .int wl])), (hw, .inl (cI, 70, .inl w))]) [0, 1] (by decide) rfl
  generalize H9 = H at hP hS ⊢
  refine lv_istore_n (lv' := [(2, .int (f_FL_heldRecord wl w)), (0, .ref h), (1, .int st)]) hx hb d_FL_writeRecord_4 rfl hl (by decide) rfl (fun ls hl => ?_)
  refine lv_iload_n hx hb d_FL_writeRecord_5 rfl (lv_at hl 0 rfl) ?_
  refine lv_iconst (v := (-1)) hx hb d_FL_writeRecord_6 (by decide) ?_
  refine lv_icmp_ne (tgt := 14) hx hb d_FL_writeRecord_7 (by decide) (fun h7 => ?_) (fun h7 => ?_)
  · refine lv_aload_n hx hb d_FL_writeRecord_14 rfl (lv_at hl 1 rfl) ?_
    refine lv_iconst (v := 4) hx hb d_FL_writeRecord_15 (by decide) ?_
    refine lv_iload_n hx hb d_FL_writeRecord_16 rfl (lv_at hl 0 rfl) ?_
    refine lv_iadd hx hb d_FL_writeRecord_17 ?_
    refine lv_iconst (v := 0) hx hb d_FL_writeRecord_18 (by decide) ?_
    have hPc := hP.sub (ws' := [(h, .inr (1, [.ref hw, .int wl])), (hw, .inl (cI, 70, .inl w))]) [0, 1] rfl
    have hDc := hD.sub (ws' := [(h, .inr (1, [.ref hw, .int wl])), (hw, .inl (cI, 70, .inl w))]) [0, 1] (by decide) rfl
    have hFc := va_free (wc := [(h, .inr (1, [.ref hw, .int wl])), (hw, .inl (cI, 70, .inl w))]) hD hS hA [0, 1] rfl
    refine va_calli (va_runV (As := [.int ((4 : Int32) + (f_FL_heldRecord wl w)), .int (0 : Int32)]) (rest := []) ⟨hx, hb, hml, hown, hts⟩ (c_FL_read l dC dI cI cJ h hw _ ((4 : Int32) + (f_FL_heldRecord wl w)) (0 : Int32) wl w (ix_rec (p_heldRecord _ _) (by assumption) (by decide))) ⟨callB_of 2 hts (bc_good gw_99) rfl rfl rfl (hts _ gw_2) (hts _ gw_96) (by decide +kernel) ⟨Nat.le_of_ble_eq_true rfl, Nat.le_of_ble_eq_true rfl⟩, (hts _ gw_97), (hts _ gw_98)⟩ ⟨bc_blind, va_recv (q0 := 0) hK hP (q := (R_FL, F_FL, 2)) rfl rfl, fun U hU hW => ⟨rfl, bc_give hPc hDc hK hE hS hFc U hU hW⟩⟩ rfl rfl hl.1 rfl (lv_room (Nat.le_of_ble_eq_true rfl)) d_FL_writeRecord_19 ⟨Nat.le_of_ble_eq_true rfl, Nat.le_of_ble_eq_true rfl⟩) hS (fun q _ h => hFc q h) hFc (fun r u t H9 locs ht hvm hp hB hz1 hk1 hS => ?_)
    subst hp
    obtain ⟨hP, hD⟩ := va_join (wr := []) (w1 := [(h, .inr (1, [.ref hw, .int wl])), (hw, .inl (cI, 70, .inl w))]) hP hD [0, 1] [] rfl rfl (by decide) (by decide) hk1 hFc (ht ▸ hB.1) hB.2.2
    have hP := hP.sub (ws' := [(h, .inr (1, [.ref hw, .int wl])), (hw, .inl (cI, 70, .inl w))]) [0, 1] rfl
    have hD := hD.sub (ws' := [(h, .inr (1, [.ref hw, .int wl])), (hw, .inl (cI, 70, .inl w))]) [0, 1] (by decide) rfl
    generalize H9 = H at hP hS ⊢
    refine lv_iconst (v := 1) hx hb d_FL_writeRecord_22 (by decide) ?_
    refine lv_iadd hx hb d_FL_writeRecord_23 ?_
    have e0 : (f_FL_writeRecord st wl w) = f_FL_writeRecord_j24 st wl w (f_FL_heldRecord wl w) ((f_FL_read ((4 : Int32) + (f_FL_heldRecord wl w)) (0 : Int32) wl w) + (1 : Int32)) wl w := by rw [f_FL_writeRecord, if_neg h7]
    rw [e0]
    exact jn_24 (f_FL_heldRecord wl w) ((f_FL_read ((4 : Int32) + (f_FL_heldRecord wl w)) (0 : Int32) wl w) + (1 : Int32)) wl w _ _ ls (lv_sub hl [1, 2, 0] rfl) hP hD hS
  · refine lv_iconst (v := 1) hx hb d_FL_writeRecord_10 (by decide) ?_
    refine lv_goto (tgt := 24) hx hb d_FL_writeRecord_11 (by decide) ?_
    have e0 : (f_FL_writeRecord st wl w) = f_FL_writeRecord_j24 st wl w (f_FL_heldRecord wl w) (1 : Int32) wl w := by rw [f_FL_writeRecord, if_pos h7]
    rw [e0]
    exact jn_24 (f_FL_heldRecord wl w) (1 : Int32) wl w _ _ ls (lv_sub hl [1, 2, 0] rfl) hP hD hS
