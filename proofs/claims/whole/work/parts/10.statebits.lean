-- SB_activeSlot
theorem d_SB_activeSlot_0 : decode prog_6_method_2_code 0 = .ok (.iconst 2, 1) := by decide +kernel
theorem d_SB_activeSlot_1 : decode prog_6_method_2_code 1 = .ok (.iload_n 1, 1) := by decide +kernel
theorem d_SB_activeSlot_2 : decode prog_6_method_2_code 2 = .ok (.imul, 1) := by decide +kernel
theorem d_SB_activeSlot_3 : decode prog_6_method_2_code 3 = .ok (.iload_n 0, 1) := by decide +kernel
theorem d_SB_activeSlot_4 : decode prog_6_method_2_code 4 = .ok (.iconst 4, 1) := by decide +kernel
theorem d_SB_activeSlot_5 : decode prog_6_method_2_code 5 = .ok (.iload_n 1, 1) := by decide +kernel
theorem d_SB_activeSlot_6 : decode prog_6_method_2_code 6 = .ok (.imul, 1) := by decide +kernel
theorem d_SB_activeSlot_7 : decode prog_6_method_2_code 7 = .ok (.iushr, 1) := by decide +kernel
theorem d_SB_activeSlot_8 : decode prog_6_method_2_code 8 = .ok (.iconst 1, 1) := by decide +kernel
theorem d_SB_activeSlot_9 : decode prog_6_method_2_code 9 = .ok (.iand, 1) := by decide +kernel
theorem d_SB_activeSlot_10 : decode prog_6_method_2_code 10 = .ok (.iadd, 1) := by decide +kernel
theorem d_SB_activeSlot_11 : decode prog_6_method_2_code 11 = .ok (.ireturn, 1) := by decide +kernel
def y_SB_activeSlot : MethodName := ⟨"BootChain$StateBits", "activeSlot", "(II)I"⟩
def ws_SB_activeSlot : List Cond := .code y_SB_activeSlot prog_6_method_2_code 2 (some .int) :: bc_G
def f_SB_activeSlot (st : Int32) (sg : Int32) : Int32 := (((2 : Int32) * sg) + ((ju st ((4 : Int32) * sg)) &&& (1 : Int32)))
set_option maxHeartbeats 4000000 in
set_option maxRecDepth 100000 in
theorem c_SB_activeSlot (l : Launch) (dC : Nat → ClassId) (dI : Nat → Nat → Nat) (cI cJ : ClassId) (sz : Nat) (st : Int32) (sg : Int32) : Met l y_SB_activeSlot ws_SB_activeSlot ({ frames := 0, cells := 0, slots := 0, locals := 0 } : Room) (va_Pc [.int st, .int sg] (bc_pre (dC, dI) cI cJ [] sz)) (va_Qi (fun (r : Int32) (_ : Unit) => r = (f_SB_activeSlot st sg)) (fun _ => bc_post (dC, dI) cI cJ (va_A [] sz) []) (va_A [] sz)) 0 0 (va_A [] sz) := by
  refine Met.ofW (cc := prog_6_method_2_code) (maxL := 2) (ret := (some .int)) (by decide) rfl ?_
  intro p e s m args below meth c s₁ B hml hv
  obtain ⟨rfl, hsz, hP, hK, hD0, hE⟩ := hv
  have hx := B.exec
  have hb := B.bytes
  have hr := B.returns
  have hts : ∀ w ∈ bc_G, w.before ([.int st, .int sg] : List Value).toArray s = true := fun w h => atoms_spec (ws := ws_SB_activeSlot) B.pre w (List.mem_cons_of_mem _ h)
  have hown : s.vm.findClass "BootChain$StateBits" = some m.cls := findClass_of_methodNamed B.named
  have hlocks := B.notSynchronized
  subst hsz
  have hD := hD0.self (sz := s.heap.size)
  generalize hAe : va_A [] s.heap.size = A at hD hE ⊢
  have hA : ∀ q : Nat, s.heap.size ≤ q → A q := fun q h => by rw [← hAe]; exact Or.inr h
  have hS : va_S A s.heap s.heap [] := va_S.rf
  have hl := lv_entry ([.int st, .int sg]) (n := 2) (Nat.le_of_ble_eq_true rfl)
  rw [lg_entry_eq]
  generalize (lg_sl ([.int st, .int sg]) ++ List.replicate (2 - (lg_sl ([.int st, .int sg])).length) Slot.unset).toArray = ls at hl ⊢
  have hl : lv_has ls 2 [(0, .int st), (1, .int sg)] := hl
  refine lv_iconst (v := 2) hx hb d_SB_activeSlot_0 (by decide) ?_
  refine lv_iload_n hx hb d_SB_activeSlot_1 rfl (lv_at hl 1 rfl) ?_
  refine lv_imul hx hb d_SB_activeSlot_2 ?_
  refine lv_iload_n hx hb d_SB_activeSlot_3 rfl (lv_at hl 0 rfl) ?_
  refine lv_iconst (v := 4) hx hb d_SB_activeSlot_4 (by decide) ?_
  refine lv_iload_n hx hb d_SB_activeSlot_5 rfl (lv_at hl 1 rfl) ?_
  refine lv_imul hx hb d_SB_activeSlot_6 ?_
  refine lv_iushr (v := (ju st ((4 : Int32) * sg))) hx hb d_SB_activeSlot_7 rfl ?_
  refine lv_iconst (v := 1) hx hb d_SB_activeSlot_8 (by decide) ?_
  refine lv_iand hx hb d_SB_activeSlot_9 ?_
  refine lv_iadd hx hb d_SB_activeSlot_10 ?_
  have e0 : (f_SB_activeSlot st sg) = (((2 : Int32) * sg) + ((ju st ((4 : Int32) * sg)) &&& (1 : Int32))) := by rw [f_SB_activeSlot]
  rw [e0]
  exact W.iret (v := (((2 : Int32) * sg) + ((ju st ((4 : Int32) * sg)) &&& (1 : Int32)))) hx hb hr (fun t ht hW => ⟨⟨(((2 : Int32) * sg) + ((ju st ((4 : Int32) * sg)) &&& (1 : Int32))), (), rfl, rfl, by rw [ht]; exact hP, va_K.moved hW.alike hK, hD⟩, hS.F ht⟩) hS.2.2 d_SB_activeSlot_11
-- SB_otherSlot
theorem d_SB_otherSlot_0 : decode prog_6_method_3_code 0 = .ok (.iload_n 0, 1) := by decide +kernel
theorem d_SB_otherSlot_1 : decode prog_6_method_3_code 1 = .ok (.iload_n 1, 1) := by decide +kernel
theorem d_SB_otherSlot_2 : decode prog_6_method_3_code 2 = .ok (.invokestatic 9, 3) := by decide +kernel
theorem d_SB_otherSlot_5 : decode prog_6_method_3_code 5 = .ok (.iconst 1, 1) := by decide +kernel
theorem d_SB_otherSlot_6 : decode prog_6_method_3_code 6 = .ok (.ixor, 1) := by decide +kernel
theorem d_SB_otherSlot_7 : decode prog_6_method_3_code 7 = .ok (.ireturn, 1) := by decide +kernel
def y_SB_otherSlot : MethodName := ⟨"BootChain$StateBits", "otherSlot", "(II)I"⟩
def ws_SB_otherSlot : List Cond := .code y_SB_otherSlot prog_6_method_3_code 2 (some .int) :: bc_G
def f_SB_otherSlot (st : Int32) (sg : Int32) : Int32 := ((f_SB_activeSlot st sg) ^^^ (1 : Int32))
set_option maxHeartbeats 4000000 in
set_option maxRecDepth 100000 in
theorem c_SB_otherSlot (l : Launch) (dC : Nat → ClassId) (dI : Nat → Nat → Nat) (cI cJ : ClassId) (sz : Nat) (st : Int32) (sg : Int32) : Met l y_SB_otherSlot ws_SB_otherSlot ({ frames := 1, cells := 0, slots := 0, locals := 21 } : Room) (va_Pc [.int st, .int sg] (bc_pre (dC, dI) cI cJ [] sz)) (va_Qi (fun (r : Int32) (_ : Unit) => r = (f_SB_otherSlot st sg)) (fun _ => bc_post (dC, dI) cI cJ (va_A [] sz) []) (va_A [] sz)) 0 0 (va_A [] sz) := by
  refine Met.ofW (cc := prog_6_method_3_code) (maxL := 2) (ret := (some .int)) (by decide) rfl ?_
  intro p e s m args below meth c s₁ B hml hv
  obtain ⟨rfl, hsz, hP, hK, hD0, hE⟩ := hv
  have hx := B.exec
  have hb := B.bytes
  have hr := B.returns
  have hts : ∀ w ∈ bc_G, w.before ([.int st, .int sg] : List Value).toArray s = true := fun w h => atoms_spec (ws := ws_SB_otherSlot) B.pre w (List.mem_cons_of_mem _ h)
  have hown : s.vm.findClass "BootChain$StateBits" = some m.cls := findClass_of_methodNamed B.named
  have hlocks := B.notSynchronized
  subst hsz
  have hD := hD0.self (sz := s.heap.size)
  generalize hAe : va_A [] s.heap.size = A at hD hE ⊢
  have hA : ∀ q : Nat, s.heap.size ≤ q → A q := fun q h => by rw [← hAe]; exact Or.inr h
  have hS : va_S A s.heap s.heap [] := va_S.rf
  have hl := lv_entry ([.int st, .int sg]) (n := 2) (Nat.le_of_ble_eq_true rfl)
  rw [lg_entry_eq]
  generalize (lg_sl ([.int st, .int sg]) ++ List.replicate (2 - (lg_sl ([.int st, .int sg])).length) Slot.unset).toArray = ls at hl ⊢
  have hl : lv_has ls 2 [(0, .int st), (1, .int sg)] := hl
  refine lv_iload_n hx hb d_SB_otherSlot_0 rfl (lv_at hl 0 rfl) ?_
  refine lv_iload_n hx hb d_SB_otherSlot_1 rfl (lv_at hl 1 rfl) ?_
  have hPc := hP.sub (ws' := []) [] rfl
  have hDc := hD.sub (ws' := []) [] (by decide) rfl
  have hFc := va_free (wc := []) hD hS hA [] rfl
  refine va_calli (va_runS (As := [.int st, .int sg]) (rest := []) ⟨hx, hb, hml, hown, hts⟩ (c_SB_activeSlot l dC dI cI cJ _ st sg) ⟨callB_of 2 hts (bc_good gw_262) rfl rfl rfl (hts _ gw_12) (hts _ gw_260) (by decide +kernel) ⟨Nat.le_of_ble_eq_true rfl, Nat.le_of_ble_eq_true rfl⟩, (hts _ gw_261)⟩ ⟨bc_blind, fun U hU hW => ⟨rfl, bc_give hPc hDc hK hE hS hFc U hU hW⟩⟩ rfl rfl hl.1 rfl (lv_room (Nat.le_of_ble_eq_true rfl)) d_SB_otherSlot_2 ⟨Nat.le_of_ble_eq_true rfl, Nat.le_of_ble_eq_true rfl⟩) hS (fun q _ h => hFc q h) hFc (fun r u t H9 locs ht hvm hp hB hz1 hk1 hS => ?_)
  subst hp
  obtain ⟨hP, hD⟩ := va_join (wr := []) (w1 := []) hP hD [] [] rfl rfl (by decide) (by decide) hk1 hFc (ht ▸ hB.1) hB.2.2
  have hP := hP.sub (ws' := []) [] rfl
  have hD := hD.sub (ws' := []) [] (by decide) rfl
  generalize H9 = H at hP hS ⊢
  refine lv_iconst (v := 1) hx hb d_SB_otherSlot_5 (by decide) ?_
  refine lv_ixor hx hb d_SB_otherSlot_6 ?_
  have e0 : (f_SB_otherSlot st sg) = ((f_SB_activeSlot st sg) ^^^ (1 : Int32)) := by rw [f_SB_otherSlot]
  rw [e0]
  exact W.iret (v := ((f_SB_activeSlot st sg) ^^^ (1 : Int32))) hx hb hr (fun t ht hW => ⟨⟨((f_SB_activeSlot st sg) ^^^ (1 : Int32)), (), rfl, rfl, by rw [ht]; exact hP, va_K.moved hW.alike hK, hD⟩, hS.F ht⟩) hS.2.2 d_SB_otherSlot_7
-- SB_onTrial
theorem d_SB_onTrial_0 : decode prog_6_method_4_code 0 = .ok (.iload_n 0, 1) := by decide +kernel
theorem d_SB_onTrial_1 : decode prog_6_method_4_code 1 = .ok (.iconst 4, 1) := by decide +kernel
theorem d_SB_onTrial_2 : decode prog_6_method_4_code 2 = .ok (.iload_n 1, 1) := by decide +kernel
theorem d_SB_onTrial_3 : decode prog_6_method_4_code 3 = .ok (.imul, 1) := by decide +kernel
theorem d_SB_onTrial_4 : decode prog_6_method_4_code 4 = .ok (.iushr, 1) := by decide +kernel
theorem d_SB_onTrial_5 : decode prog_6_method_4_code 5 = .ok (.iconst 2, 1) := by decide +kernel
theorem d_SB_onTrial_6 : decode prog_6_method_4_code 6 = .ok (.iand, 1) := by decide +kernel
theorem d_SB_onTrial_7 : decode prog_6_method_4_code 7 = .ok (.ifCond .eq 7, 3) := by decide +kernel
theorem d_SB_onTrial_10 : decode prog_6_method_4_code 10 = .ok (.iconst 1, 1) := by decide +kernel
theorem d_SB_onTrial_11 : decode prog_6_method_4_code 11 = .ok (.goto 4, 3) := by decide +kernel
theorem d_SB_onTrial_14 : decode prog_6_method_4_code 14 = .ok (.iconst 0, 1) := by decide +kernel
theorem d_SB_onTrial_15 : decode prog_6_method_4_code 15 = .ok (.ireturn, 1) := by decide +kernel
def y_SB_onTrial : MethodName := ⟨"BootChain$StateBits", "onTrial", "(II)Z"⟩
def ws_SB_onTrial : List Cond := .code y_SB_onTrial prog_6_method_4_code 2 (some .boolean) :: bc_G
def f_SB_onTrial (st : Int32) (sg : Int32) : Int32 := if ((ju st ((4 : Int32) * sg)) &&& (2 : Int32)) = 0 then (0 : Int32) else (1 : Int32)
set_option maxHeartbeats 4000000 in
set_option maxRecDepth 100000 in
theorem c_SB_onTrial (l : Launch) (dC : Nat → ClassId) (dI : Nat → Nat → Nat) (cI cJ : ClassId) (sz : Nat) (st : Int32) (sg : Int32) : Met l y_SB_onTrial ws_SB_onTrial ({ frames := 0, cells := 0, slots := 0, locals := 0 } : Room) (va_Pc [.int st, .int sg] (bc_pre (dC, dI) cI cJ [] sz)) (va_Qi (fun (r : Int32) (_ : Unit) => r = (f_SB_onTrial st sg)) (fun _ => bc_post (dC, dI) cI cJ (va_A [] sz) []) (va_A [] sz)) 0 0 (va_A [] sz) := by
  refine Met.ofW (cc := prog_6_method_4_code) (maxL := 2) (ret := (some .boolean)) (by decide) rfl ?_
  intro p e s m args below meth c s₁ B hml hv
  obtain ⟨rfl, hsz, hP, hK, hD0, hE⟩ := hv
  have hx := B.exec
  have hb := B.bytes
  have hr := B.returns
  have hts : ∀ w ∈ bc_G, w.before ([.int st, .int sg] : List Value).toArray s = true := fun w h => atoms_spec (ws := ws_SB_onTrial) B.pre w (List.mem_cons_of_mem _ h)
  have hown : s.vm.findClass "BootChain$StateBits" = some m.cls := findClass_of_methodNamed B.named
  have hlocks := B.notSynchronized
  subst hsz
  have hD := hD0.self (sz := s.heap.size)
  generalize hAe : va_A [] s.heap.size = A at hD hE ⊢
  have hA : ∀ q : Nat, s.heap.size ≤ q → A q := fun q h => by rw [← hAe]; exact Or.inr h
  have hS : va_S A s.heap s.heap [] := va_S.rf
  have hl := lv_entry ([.int st, .int sg]) (n := 2) (Nat.le_of_ble_eq_true rfl)
  rw [lg_entry_eq]
  generalize (lg_sl ([.int st, .int sg]) ++ List.replicate (2 - (lg_sl ([.int st, .int sg])).length) Slot.unset).toArray = ls at hl ⊢
  have hl : lv_has ls 2 [(0, .int st), (1, .int sg)] := hl
  refine lv_iload_n hx hb d_SB_onTrial_0 rfl (lv_at hl 0 rfl) ?_
  refine lv_iconst (v := 4) hx hb d_SB_onTrial_1 (by decide) ?_
  refine lv_iload_n hx hb d_SB_onTrial_2 rfl (lv_at hl 1 rfl) ?_
  refine lv_imul hx hb d_SB_onTrial_3 ?_
  refine lv_iushr (v := (ju st ((4 : Int32) * sg))) hx hb d_SB_onTrial_4 rfl ?_
  refine lv_iconst (v := 2) hx hb d_SB_onTrial_5 (by decide) ?_
  refine lv_iand hx hb d_SB_onTrial_6 ?_
  refine lv_if_eq (tgt := 14) hx hb d_SB_onTrial_7 (by decide) (fun h2 => ?_) (fun h2 => ?_)
  · refine lv_iconst (v := 0) hx hb d_SB_onTrial_14 (by decide) ?_
    have e0 : (f_SB_onTrial st sg) = (0 : Int32) := by rw [f_SB_onTrial, if_pos h2]
    rw [e0]
    exact W.zret (v := (0 : Int32)) (ty := .boolean) hx hb hr (rfl) (fun t ht hW => ⟨⟨(0 : Int32), (), rfl, rfl, by rw [ht]; exact hP, va_K.moved hW.alike hK, hD⟩, hS.F ht⟩) hS.2.2 d_SB_onTrial_15
  · refine lv_iconst (v := 1) hx hb d_SB_onTrial_10 (by decide) ?_
    refine lv_goto (tgt := 15) hx hb d_SB_onTrial_11 (by decide) ?_
    have e0 : (f_SB_onTrial st sg) = (1 : Int32) := by rw [f_SB_onTrial, if_neg h2]
    rw [e0]
    exact W.zret (v := (1 : Int32)) (ty := .boolean) hx hb hr (rfl) (fun t ht hW => ⟨⟨(1 : Int32), (), rfl, rfl, by rw [ht]; exact hP, va_K.moved hW.alike hK, hD⟩, hS.F ht⟩) hS.2.2 d_SB_onTrial_15
-- SB_triesLeft
theorem d_SB_triesLeft_0 : decode prog_6_method_5_code 0 = .ok (.iload_n 0, 1) := by decide +kernel
theorem d_SB_triesLeft_1 : decode prog_6_method_5_code 1 = .ok (.iconst 4, 1) := by decide +kernel
theorem d_SB_triesLeft_2 : decode prog_6_method_5_code 2 = .ok (.iload_n 1, 1) := by decide +kernel
theorem d_SB_triesLeft_3 : decode prog_6_method_5_code 3 = .ok (.imul, 1) := by decide +kernel
theorem d_SB_triesLeft_4 : decode prog_6_method_5_code 4 = .ok (.iconst 2, 1) := by decide +kernel
theorem d_SB_triesLeft_5 : decode prog_6_method_5_code 5 = .ok (.iadd, 1) := by decide +kernel
theorem d_SB_triesLeft_6 : decode prog_6_method_5_code 6 = .ok (.iushr, 1) := by decide +kernel
theorem d_SB_triesLeft_7 : decode prog_6_method_5_code 7 = .ok (.iconst 3, 1) := by decide +kernel
theorem d_SB_triesLeft_8 : decode prog_6_method_5_code 8 = .ok (.iand, 1) := by decide +kernel
theorem d_SB_triesLeft_9 : decode prog_6_method_5_code 9 = .ok (.ireturn, 1) := by decide +kernel
def y_SB_triesLeft : MethodName := ⟨"BootChain$StateBits", "triesLeft", "(II)I"⟩
def ws_SB_triesLeft : List Cond := .code y_SB_triesLeft prog_6_method_5_code 2 (some .int) :: bc_G
def f_SB_triesLeft (st : Int32) (sg : Int32) : Int32 := ((ju st (((4 : Int32) * sg) + (2 : Int32))) &&& (3 : Int32))
set_option maxHeartbeats 4000000 in
set_option maxRecDepth 100000 in
theorem c_SB_triesLeft (l : Launch) (dC : Nat → ClassId) (dI : Nat → Nat → Nat) (cI cJ : ClassId) (sz : Nat) (st : Int32) (sg : Int32) : Met l y_SB_triesLeft ws_SB_triesLeft ({ frames := 0, cells := 0, slots := 0, locals := 0 } : Room) (va_Pc [.int st, .int sg] (bc_pre (dC, dI) cI cJ [] sz)) (va_Qi (fun (r : Int32) (_ : Unit) => r = (f_SB_triesLeft st sg)) (fun _ => bc_post (dC, dI) cI cJ (va_A [] sz) []) (va_A [] sz)) 0 0 (va_A [] sz) := by
  refine Met.ofW (cc := prog_6_method_5_code) (maxL := 2) (ret := (some .int)) (by decide) rfl ?_
  intro p e s m args below meth c s₁ B hml hv
  obtain ⟨rfl, hsz, hP, hK, hD0, hE⟩ := hv
  have hx := B.exec
  have hb := B.bytes
  have hr := B.returns
  have hts : ∀ w ∈ bc_G, w.before ([.int st, .int sg] : List Value).toArray s = true := fun w h => atoms_spec (ws := ws_SB_triesLeft) B.pre w (List.mem_cons_of_mem _ h)
  have hown : s.vm.findClass "BootChain$StateBits" = some m.cls := findClass_of_methodNamed B.named
  have hlocks := B.notSynchronized
  subst hsz
  have hD := hD0.self (sz := s.heap.size)
  generalize hAe : va_A [] s.heap.size = A at hD hE ⊢
  have hA : ∀ q : Nat, s.heap.size ≤ q → A q := fun q h => by rw [← hAe]; exact Or.inr h
  have hS : va_S A s.heap s.heap [] := va_S.rf
  have hl := lv_entry ([.int st, .int sg]) (n := 2) (Nat.le_of_ble_eq_true rfl)
  rw [lg_entry_eq]
  generalize (lg_sl ([.int st, .int sg]) ++ List.replicate (2 - (lg_sl ([.int st, .int sg])).length) Slot.unset).toArray = ls at hl ⊢
  have hl : lv_has ls 2 [(0, .int st), (1, .int sg)] := hl
  refine lv_iload_n hx hb d_SB_triesLeft_0 rfl (lv_at hl 0 rfl) ?_
  refine lv_iconst (v := 4) hx hb d_SB_triesLeft_1 (by decide) ?_
  refine lv_iload_n hx hb d_SB_triesLeft_2 rfl (lv_at hl 1 rfl) ?_
  refine lv_imul hx hb d_SB_triesLeft_3 ?_
  refine lv_iconst (v := 2) hx hb d_SB_triesLeft_4 (by decide) ?_
  refine lv_iadd hx hb d_SB_triesLeft_5 ?_
  refine lv_iushr (v := (ju st (((4 : Int32) * sg) + (2 : Int32)))) hx hb d_SB_triesLeft_6 rfl ?_
  refine lv_iconst (v := 3) hx hb d_SB_triesLeft_7 (by decide) ?_
  refine lv_iand hx hb d_SB_triesLeft_8 ?_
  have e0 : (f_SB_triesLeft st sg) = ((ju st (((4 : Int32) * sg) + (2 : Int32))) &&& (3 : Int32)) := by rw [f_SB_triesLeft]
  rw [e0]
  exact W.iret (v := ((ju st (((4 : Int32) * sg) + (2 : Int32))) &&& (3 : Int32))) hx hb hr (fun t ht hW => ⟨⟨((ju st (((4 : Int32) * sg) + (2 : Int32))) &&& (3 : Int32)), (), rfl, rfl, by rw [ht]; exact hP, va_K.moved hW.alike hK, hD⟩, hS.F ht⟩) hS.2.2 d_SB_triesLeft_9
-- SB_withoutTrial
theorem d_SB_withoutTrial_0 : decode prog_6_method_6_code 0 = .ok (.iload_n 0, 1) := by decide +kernel
theorem d_SB_withoutTrial_1 : decode prog_6_method_6_code 1 = .ok (.bipush 14, 2) := by decide +kernel
theorem d_SB_withoutTrial_3 : decode prog_6_method_6_code 3 = .ok (.iconst 4, 1) := by decide +kernel
theorem d_SB_withoutTrial_4 : decode prog_6_method_6_code 4 = .ok (.iload_n 1, 1) := by decide +kernel
theorem d_SB_withoutTrial_5 : decode prog_6_method_6_code 5 = .ok (.imul, 1) := by decide +kernel
theorem d_SB_withoutTrial_6 : decode prog_6_method_6_code 6 = .ok (.ishl, 1) := by decide +kernel
theorem d_SB_withoutTrial_7 : decode prog_6_method_6_code 7 = .ok (.iconst (-1), 1) := by decide +kernel
theorem d_SB_withoutTrial_8 : decode prog_6_method_6_code 8 = .ok (.ixor, 1) := by decide +kernel
theorem d_SB_withoutTrial_9 : decode prog_6_method_6_code 9 = .ok (.iand, 1) := by decide +kernel
theorem d_SB_withoutTrial_10 : decode prog_6_method_6_code 10 = .ok (.ireturn, 1) := by decide +kernel
def y_SB_withoutTrial : MethodName := ⟨"BootChain$StateBits", "withoutTrial", "(II)I"⟩
def ws_SB_withoutTrial : List Cond := .code y_SB_withoutTrial prog_6_method_6_code 2 (some .int) :: bc_G
def f_SB_withoutTrial (st : Int32) (sg : Int32) : Int32 := (st &&& (((14 : Int32) <<< (((4 : Int32) * sg) &&& 31)) ^^^ (-1 : Int32)))
set_option maxHeartbeats 4000000 in
set_option maxRecDepth 100000 in
theorem c_SB_withoutTrial (l : Launch) (dC : Nat → ClassId) (dI : Nat → Nat → Nat) (cI cJ : ClassId) (sz : Nat) (st : Int32) (sg : Int32) : Met l y_SB_withoutTrial ws_SB_withoutTrial ({ frames := 0, cells := 0, slots := 0, locals := 0 } : Room) (va_Pc [.int st, .int sg] (bc_pre (dC, dI) cI cJ [] sz)) (va_Qi (fun (r : Int32) (_ : Unit) => r = (f_SB_withoutTrial st sg)) (fun _ => bc_post (dC, dI) cI cJ (va_A [] sz) []) (va_A [] sz)) 0 0 (va_A [] sz) := by
  refine Met.ofW (cc := prog_6_method_6_code) (maxL := 2) (ret := (some .int)) (by decide) rfl ?_
  intro p e s m args below meth c s₁ B hml hv
  obtain ⟨rfl, hsz, hP, hK, hD0, hE⟩ := hv
  have hx := B.exec
  have hb := B.bytes
  have hr := B.returns
  have hts : ∀ w ∈ bc_G, w.before ([.int st, .int sg] : List Value).toArray s = true := fun w h => atoms_spec (ws := ws_SB_withoutTrial) B.pre w (List.mem_cons_of_mem _ h)
  have hown : s.vm.findClass "BootChain$StateBits" = some m.cls := findClass_of_methodNamed B.named
  have hlocks := B.notSynchronized
  subst hsz
  have hD := hD0.self (sz := s.heap.size)
  generalize hAe : va_A [] s.heap.size = A at hD hE ⊢
  have hA : ∀ q : Nat, s.heap.size ≤ q → A q := fun q h => by rw [← hAe]; exact Or.inr h
  have hS : va_S A s.heap s.heap [] := va_S.rf
  have hl := lv_entry ([.int st, .int sg]) (n := 2) (Nat.le_of_ble_eq_true rfl)
  rw [lg_entry_eq]
  generalize (lg_sl ([.int st, .int sg]) ++ List.replicate (2 - (lg_sl ([.int st, .int sg])).length) Slot.unset).toArray = ls at hl ⊢
  have hl : lv_has ls 2 [(0, .int st), (1, .int sg)] := hl
  refine lv_iload_n hx hb d_SB_withoutTrial_0 rfl (lv_at hl 0 rfl) ?_
  refine lv_bipush (v := 14) hx hb d_SB_withoutTrial_1 (by decide) ?_
  refine lv_iconst (v := 4) hx hb d_SB_withoutTrial_3 (by decide) ?_
  refine lv_iload_n hx hb d_SB_withoutTrial_4 rfl (lv_at hl 1 rfl) ?_
  refine lv_imul hx hb d_SB_withoutTrial_5 ?_
  refine lv_ishl hx hb d_SB_withoutTrial_6 ?_
  refine lv_iconst (v := (-1)) hx hb d_SB_withoutTrial_7 (by decide) ?_
  refine lv_ixor hx hb d_SB_withoutTrial_8 ?_
  refine lv_iand hx hb d_SB_withoutTrial_9 ?_
  have e0 : (f_SB_withoutTrial st sg) = (st &&& (((14 : Int32) <<< (((4 : Int32) * sg) &&& 31)) ^^^ (-1 : Int32))) := by rw [f_SB_withoutTrial]
  rw [e0]
  exact W.iret (v := (st &&& (((14 : Int32) <<< (((4 : Int32) * sg) &&& 31)) ^^^ (-1 : Int32)))) hx hb hr (fun t ht hW => ⟨⟨(st &&& (((14 : Int32) <<< (((4 : Int32) * sg) &&& 31)) ^^^ (-1 : Int32))), (), rfl, rfl, by rw [ht]; exact hP, va_K.moved hW.alike hK, hD⟩, hS.F ht⟩) hS.2.2 d_SB_withoutTrial_10
-- SB_withTrial
theorem d_SB_withTrial_0 : decode prog_6_method_7_code 0 = .ok (.iconst 2, 1) := by decide +kernel
theorem d_SB_withTrial_1 : decode prog_6_method_7_code 1 = .ok (.iload_n 2, 1) := by decide +kernel
theorem d_SB_withTrial_2 : decode prog_6_method_7_code 2 = .ok (.iconst 2, 1) := by decide +kernel
theorem d_SB_withTrial_3 : decode prog_6_method_7_code 3 = .ok (.ishl, 1) := by decide +kernel
theorem d_SB_withTrial_4 : decode prog_6_method_7_code 4 = .ok (.ior, 1) := by decide +kernel
theorem d_SB_withTrial_5 : decode prog_6_method_7_code 5 = .ok (.istore_n 3, 1) := by decide +kernel
theorem d_SB_withTrial_6 : decode prog_6_method_7_code 6 = .ok (.iload_n 0, 1) := by decide +kernel
theorem d_SB_withTrial_7 : decode prog_6_method_7_code 7 = .ok (.iload_n 1, 1) := by decide +kernel
theorem d_SB_withTrial_8 : decode prog_6_method_7_code 8 = .ok (.invokestatic 13, 3) := by decide +kernel
theorem d_SB_withTrial_11 : decode prog_6_method_7_code 11 = .ok (.iload_n 3, 1) := by decide +kernel
theorem d_SB_withTrial_12 : decode prog_6_method_7_code 12 = .ok (.iconst 4, 1) := by decide +kernel
theorem d_SB_withTrial_13 : decode prog_6_method_7_code 13 = .ok (.iload_n 1, 1) := by decide +kernel
theorem d_SB_withTrial_14 : decode prog_6_method_7_code 14 = .ok (.imul, 1) := by decide +kernel
theorem d_SB_withTrial_15 : decode prog_6_method_7_code 15 = .ok (.ishl, 1) := by decide +kernel
theorem d_SB_withTrial_16 : decode prog_6_method_7_code 16 = .ok (.ior, 1) := by decide +kernel
theorem d_SB_withTrial_17 : decode prog_6_method_7_code 17 = .ok (.ireturn, 1) := by decide +kernel
def y_SB_withTrial : MethodName := ⟨"BootChain$StateBits", "withTrial", "(III)I"⟩
def ws_SB_withTrial : List Cond := .code y_SB_withTrial prog_6_method_7_code 4 (some .int) :: bc_G
def f_SB_withTrial (st : Int32) (sg : Int32) (tr : Int32) : Int32 := ((f_SB_withoutTrial st sg) ||| (((2 : Int32) ||| (tr <<< ((2 : Int32) &&& 31))) <<< (((4 : Int32) * sg) &&& 31)))
set_option maxHeartbeats 4000000 in
set_option maxRecDepth 100000 in
theorem c_SB_withTrial (l : Launch) (dC : Nat → ClassId) (dI : Nat → Nat → Nat) (cI cJ : ClassId) (sz : Nat) (st : Int32) (sg : Int32) (tr : Int32) : Met l y_SB_withTrial ws_SB_withTrial ({ frames := 1, cells := 0, slots := 0, locals := 21 } : Room) (va_Pc [.int st, .int sg, .int tr] (bc_pre (dC, dI) cI cJ [] sz)) (va_Qi (fun (r : Int32) (_ : Unit) => r = (f_SB_withTrial st sg tr)) (fun _ => bc_post (dC, dI) cI cJ (va_A [] sz) []) (va_A [] sz)) 0 0 (va_A [] sz) := by
  refine Met.ofW (cc := prog_6_method_7_code) (maxL := 4) (ret := (some .int)) (by decide) rfl ?_
  intro p e s m args below meth c s₁ B hml hv
  obtain ⟨rfl, hsz, hP, hK, hD0, hE⟩ := hv
  have hx := B.exec
  have hb := B.bytes
  have hr := B.returns
  have hts : ∀ w ∈ bc_G, w.before ([.int st, .int sg, .int tr] : List Value).toArray s = true := fun w h => atoms_spec (ws := ws_SB_withTrial) B.pre w (List.mem_cons_of_mem _ h)
  have hown : s.vm.findClass "BootChain$StateBits" = some m.cls := findClass_of_methodNamed B.named
  have hlocks := B.notSynchronized
  subst hsz
  have hD := hD0.self (sz := s.heap.size)
  generalize hAe : va_A [] s.heap.size = A at hD hE ⊢
  have hA : ∀ q : Nat, s.heap.size ≤ q → A q := fun q h => by rw [← hAe]; exact Or.inr h
  have hS : va_S A s.heap s.heap [] := va_S.rf
  have hl := lv_entry ([.int st, .int sg, .int tr]) (n := 4) (Nat.le_of_ble_eq_true rfl)
  rw [lg_entry_eq]
  generalize (lg_sl ([.int st, .int sg, .int tr]) ++ List.replicate (4 - (lg_sl ([.int st, .int sg, .int tr])).length) Slot.unset).toArray = ls at hl ⊢
  have hl : lv_has ls 4 [(0, .int st), (1, .int sg), (2, .int tr)] := hl
  refine lv_iconst (v := 2) hx hb d_SB_withTrial_0 (by decide) ?_
  refine lv_iload_n hx hb d_SB_withTrial_1 rfl (lv_at hl 2 rfl) ?_
  refine lv_iconst (v := 2) hx hb d_SB_withTrial_2 (by decide) ?_
  refine lv_ishl hx hb d_SB_withTrial_3 ?_
  refine lv_ior hx hb d_SB_withTrial_4 ?_
  refine lv_istore_n (lv' := [(3, .int ((2 : Int32) ||| (tr <<< ((2 : Int32) &&& 31)))), (0, .int st), (1, .int sg), (2, .int tr)]) hx hb d_SB_withTrial_5 rfl hl (by decide) rfl (fun ls hl => ?_)
  refine lv_iload_n hx hb d_SB_withTrial_6 rfl (lv_at hl 1 rfl) ?_
  refine lv_iload_n hx hb d_SB_withTrial_7 rfl (lv_at hl 2 rfl) ?_
  have hPc := hP.sub (ws' := []) [] rfl
  have hDc := hD.sub (ws' := []) [] (by decide) rfl
  have hFc := va_free (wc := []) hD hS hA [] rfl
  refine va_calli (va_runS (As := [.int st, .int sg]) (rest := []) ⟨hx, hb, hml, hown, hts⟩ (c_SB_withoutTrial l dC dI cI cJ _ st sg) ⟨callB_of 2 hts (bc_good gw_271) rfl rfl rfl (hts _ gw_12) (hts _ gw_269) (by decide +kernel) ⟨Nat.le_of_ble_eq_true rfl, Nat.le_of_ble_eq_true rfl⟩, (hts _ gw_270)⟩ ⟨bc_blind, fun U hU hW => ⟨rfl, bc_give hPc hDc hK hE hS hFc U hU hW⟩⟩ rfl rfl hl.1 rfl (lv_room (Nat.le_of_ble_eq_true rfl)) d_SB_withTrial_8 ⟨Nat.le_of_ble_eq_true rfl, Nat.le_of_ble_eq_true rfl⟩) hS (fun q _ h => hFc q h) hFc (fun r u t H9 locs ht hvm hp hB hz1 hk1 hS => ?_)
  subst hp
  obtain ⟨hP, hD⟩ := va_join (wr := []) (w1 := []) hP hD [] [] rfl rfl (by decide) (by decide) hk1 hFc (ht ▸ hB.1) hB.2.2
  have hP := hP.sub (ws' := []) [] rfl
  have hD := hD.sub (ws' := []) [] (by decide) rfl
  generalize H9 = H at hP hS ⊢
  refine lv_iload_n hx hb d_SB_withTrial_11 rfl (lv_at hl 0 rfl) ?_
  refine lv_iconst (v := 4) hx hb d_SB_withTrial_12 (by decide) ?_
  refine lv_iload_n hx hb d_SB_withTrial_13 rfl (lv_at hl 2 rfl) ?_
  refine lv_imul hx hb d_SB_withTrial_14 ?_
  refine lv_ishl hx hb d_SB_withTrial_15 ?_
  refine lv_ior hx hb d_SB_withTrial_16 ?_
  have e0 : (f_SB_withTrial st sg tr) = ((f_SB_withoutTrial st sg) ||| (((2 : Int32) ||| (tr <<< ((2 : Int32) &&& 31))) <<< (((4 : Int32) * sg) &&& 31))) := by rw [f_SB_withTrial]
  rw [e0]
  exact W.iret (v := ((f_SB_withoutTrial st sg) ||| (((2 : Int32) ||| (tr <<< ((2 : Int32) &&& 31))) <<< (((4 : Int32) * sg) &&& 31)))) hx hb hr (fun t ht hW => ⟨⟨((f_SB_withoutTrial st sg) ||| (((2 : Int32) ||| (tr <<< ((2 : Int32) &&& 31))) <<< (((4 : Int32) * sg) &&& 31))), (), rfl, rfl, by rw [ht]; exact hP, va_K.moved hW.alike hK, hD⟩, hS.F ht⟩) hS.2.2 d_SB_withTrial_17
-- SB_withOtherActive
theorem d_SB_withOtherActive_0 : decode prog_6_method_8_code 0 = .ok (.iload_n 0, 1) := by decide +kernel
theorem d_SB_withOtherActive_1 : decode prog_6_method_8_code 1 = .ok (.iload_n 1, 1) := by decide +kernel
theorem d_SB_withOtherActive_2 : decode prog_6_method_8_code 2 = .ok (.invokestatic 13, 3) := by decide +kernel
theorem d_SB_withOtherActive_5 : decode prog_6_method_8_code 5 = .ok (.iconst 1, 1) := by decide +kernel
theorem d_SB_withOtherActive_6 : decode prog_6_method_8_code 6 = .ok (.iconst 4, 1) := by decide +kernel
theorem d_SB_withOtherActive_7 : decode prog_6_method_8_code 7 = .ok (.iload_n 1, 1) := by decide +kernel
theorem d_SB_withOtherActive_8 : decode prog_6_method_8_code 8 = .ok (.imul, 1) := by decide +kernel
theorem d_SB_withOtherActive_9 : decode prog_6_method_8_code 9 = .ok (.ishl, 1) := by decide +kernel
theorem d_SB_withOtherActive_10 : decode prog_6_method_8_code 10 = .ok (.ixor, 1) := by decide +kernel
theorem d_SB_withOtherActive_11 : decode prog_6_method_8_code 11 = .ok (.ireturn, 1) := by decide +kernel
def y_SB_withOtherActive : MethodName := ⟨"BootChain$StateBits", "withOtherActive", "(II)I"⟩
def ws_SB_withOtherActive : List Cond := .code y_SB_withOtherActive prog_6_method_8_code 2 (some .int) :: bc_G
def f_SB_withOtherActive (st : Int32) (sg : Int32) : Int32 := ((f_SB_withoutTrial st sg) ^^^ ((1 : Int32) <<< (((4 : Int32) * sg) &&& 31)))
set_option maxHeartbeats 4000000 in
set_option maxRecDepth 100000 in
theorem c_SB_withOtherActive (l : Launch) (dC : Nat → ClassId) (dI : Nat → Nat → Nat) (cI cJ : ClassId) (sz : Nat) (st : Int32) (sg : Int32) : Met l y_SB_withOtherActive ws_SB_withOtherActive ({ frames := 1, cells := 0, slots := 0, locals := 21 } : Room) (va_Pc [.int st, .int sg] (bc_pre (dC, dI) cI cJ [] sz)) (va_Qi (fun (r : Int32) (_ : Unit) => r = (f_SB_withOtherActive st sg)) (fun _ => bc_post (dC, dI) cI cJ (va_A [] sz) []) (va_A [] sz)) 0 0 (va_A [] sz) := by
  refine Met.ofW (cc := prog_6_method_8_code) (maxL := 2) (ret := (some .int)) (by decide) rfl ?_
  intro p e s m args below meth c s₁ B hml hv
  obtain ⟨rfl, hsz, hP, hK, hD0, hE⟩ := hv
  have hx := B.exec
  have hb := B.bytes
  have hr := B.returns
  have hts : ∀ w ∈ bc_G, w.before ([.int st, .int sg] : List Value).toArray s = true := fun w h => atoms_spec (ws := ws_SB_withOtherActive) B.pre w (List.mem_cons_of_mem _ h)
  have hown : s.vm.findClass "BootChain$StateBits" = some m.cls := findClass_of_methodNamed B.named
  have hlocks := B.notSynchronized
  subst hsz
  have hD := hD0.self (sz := s.heap.size)
  generalize hAe : va_A [] s.heap.size = A at hD hE ⊢
  have hA : ∀ q : Nat, s.heap.size ≤ q → A q := fun q h => by rw [← hAe]; exact Or.inr h
  have hS : va_S A s.heap s.heap [] := va_S.rf
  have hl := lv_entry ([.int st, .int sg]) (n := 2) (Nat.le_of_ble_eq_true rfl)
  rw [lg_entry_eq]
  generalize (lg_sl ([.int st, .int sg]) ++ List.replicate (2 - (lg_sl ([.int st, .int sg])).length) Slot.unset).toArray = ls at hl ⊢
  have hl : lv_has ls 2 [(0, .int st), (1, .int sg)] := hl
  refine lv_iload_n hx hb d_SB_withOtherActive_0 rfl (lv_at hl 0 rfl) ?_
  refine lv_iload_n hx hb d_SB_withOtherActive_1 rfl (lv_at hl 1 rfl) ?_
  have hPc := hP.sub (ws' := []) [] rfl
  have hDc := hD.sub (ws' := []) [] (by decide) rfl
  have hFc := va_free (wc := []) hD hS hA [] rfl
  refine va_calli (va_runS (As := [.int st, .int sg]) (rest := []) ⟨hx, hb, hml, hown, hts⟩ (c_SB_withoutTrial l dC dI cI cJ _ st sg) ⟨callB_of 2 hts (bc_good gw_271) rfl rfl rfl (hts _ gw_12) (hts _ gw_269) (by decide +kernel) ⟨Nat.le_of_ble_eq_true rfl, Nat.le_of_ble_eq_true rfl⟩, (hts _ gw_270)⟩ ⟨bc_blind, fun U hU hW => ⟨rfl, bc_give hPc hDc hK hE hS hFc U hU hW⟩⟩ rfl rfl hl.1 rfl (lv_room (Nat.le_of_ble_eq_true rfl)) d_SB_withOtherActive_2 ⟨Nat.le_of_ble_eq_true rfl, Nat.le_of_ble_eq_true rfl⟩) hS (fun q _ h => hFc q h) hFc (fun r u t H9 locs ht hvm hp hB hz1 hk1 hS => ?_)
  subst hp
  obtain ⟨hP, hD⟩ := va_join (wr := []) (w1 := []) hP hD [] [] rfl rfl (by decide) (by decide) hk1 hFc (ht ▸ hB.1) hB.2.2
  have hP := hP.sub (ws' := []) [] rfl
  have hD := hD.sub (ws' := []) [] (by decide) rfl
  generalize H9 = H at hP hS ⊢
  refine lv_iconst (v := 1) hx hb d_SB_withOtherActive_5 (by decide) ?_
  refine lv_iconst (v := 4) hx hb d_SB_withOtherActive_6 (by decide) ?_
  refine lv_iload_n hx hb d_SB_withOtherActive_7 rfl (lv_at hl 1 rfl) ?_
  refine lv_imul hx hb d_SB_withOtherActive_8 ?_
  refine lv_ishl hx hb d_SB_withOtherActive_9 ?_
  refine lv_ixor hx hb d_SB_withOtherActive_10 ?_
  have e0 : (f_SB_withOtherActive st sg) = ((f_SB_withoutTrial st sg) ^^^ ((1 : Int32) <<< (((4 : Int32) * sg) &&& 31))) := by rw [f_SB_withOtherActive]
  rw [e0]
  exact W.iret (v := ((f_SB_withoutTrial st sg) ^^^ ((1 : Int32) <<< (((4 : Int32) * sg) &&& 31)))) hx hb hr (fun t ht hW => ⟨⟨((f_SB_withoutTrial st sg) ^^^ ((1 : Int32) <<< (((4 : Int32) * sg) &&& 31))), (), rfl, rfl, by rw [ht]; exact hP, va_K.moved hW.alike hK, hD⟩, hS.F ht⟩) hS.2.2 d_SB_withOtherActive_11
