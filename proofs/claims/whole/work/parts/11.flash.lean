-- FL_hasWord
theorem d_FL_hasWord_0 : decode prog_3_method_2_code 0 = .ok (.iload_n 0, 1) := by decide +kernel
theorem d_FL_hasWord_1 : decode prog_3_method_2_code 1 = .ok (.ifCond .lt 13, 3) := by decide +kernel
theorem d_FL_hasWord_4 : decode prog_3_method_2_code 4 = .ok (.iload_n 0, 1) := by decide +kernel
theorem d_FL_hasWord_5 : decode prog_3_method_2_code 5 = .ok (.bipush 6, 2) := by decide +kernel
theorem d_FL_hasWord_7 : decode prog_3_method_2_code 7 = .ok (.if_icmp .ge 7, 3) := by decide +kernel
theorem d_FL_hasWord_10 : decode prog_3_method_2_code 10 = .ok (.iload_n 1, 1) := by decide +kernel
theorem d_FL_hasWord_11 : decode prog_3_method_2_code 11 = .ok (.ifCond .ge 5, 3) := by decide +kernel
theorem d_FL_hasWord_14 : decode prog_3_method_2_code 14 = .ok (.iconst 0, 1) := by decide +kernel
theorem d_FL_hasWord_15 : decode prog_3_method_2_code 15 = .ok (.ireturn, 1) := by decide +kernel
theorem d_FL_hasWord_16 : decode prog_3_method_2_code 16 = .ok (.iload_n 1, 1) := by decide +kernel
theorem d_FL_hasWord_17 : decode prog_3_method_2_code 17 = .ok (.iload_n 0, 1) := by decide +kernel
theorem d_FL_hasWord_18 : decode prog_3_method_2_code 18 = .ok (.iconst 4, 1) := by decide +kernel
theorem d_FL_hasWord_19 : decode prog_3_method_2_code 19 = .ok (.if_icmp .ge 8, 3) := by decide +kernel
theorem d_FL_hasWord_22 : decode prog_3_method_2_code 22 = .ok (.bipush 16, 2) := by decide +kernel
theorem d_FL_hasWord_24 : decode prog_3_method_2_code 24 = .ok (.goto 4, 3) := by decide +kernel
theorem d_FL_hasWord_27 : decode prog_3_method_2_code 27 = .ok (.iconst 3, 1) := by decide +kernel
theorem d_FL_hasWord_28 : decode prog_3_method_2_code 28 = .ok (.if_icmp .ge 7, 3) := by decide +kernel
theorem d_FL_hasWord_31 : decode prog_3_method_2_code 31 = .ok (.iconst 1, 1) := by decide +kernel
theorem d_FL_hasWord_32 : decode prog_3_method_2_code 32 = .ok (.goto 4, 3) := by decide +kernel
theorem d_FL_hasWord_35 : decode prog_3_method_2_code 35 = .ok (.iconst 0, 1) := by decide +kernel
theorem d_FL_hasWord_36 : decode prog_3_method_2_code 36 = .ok (.ireturn, 1) := by decide +kernel
def y_FL_hasWord : MethodName := ⟨"BootChain$Flash", "hasWord", "(II)Z"⟩
def ws_FL_hasWord : List Cond := .code y_FL_hasWord prog_3_method_2_code 2 (some .boolean) :: bc_G
def f_FL_hasWord (pl : Int32) (wd : Int32) : Int32 := if pl < 0 then (0 : Int32) else if (6 : Int32) ≤ pl then (0 : Int32) else if 0 ≤ wd then if (4 : Int32) ≤ pl then if (3 : Int32) ≤ wd then (0 : Int32) else (1 : Int32) else if (16 : Int32) ≤ wd then (0 : Int32) else (1 : Int32) else (0 : Int32)
set_option maxHeartbeats 4000000 in
set_option maxRecDepth 100000 in
theorem c_FL_hasWord (l : Launch) (dC : Nat → ClassId) (dI : Nat → Nat → Nat) (cI cJ : ClassId) (sz : Nat) (pl : Int32) (wd : Int32) : Met l y_FL_hasWord ws_FL_hasWord ({ frames := 0, cells := 0, slots := 0, locals := 0 } : Room) (va_Pc [.int pl, .int wd] (bc_pre (dC, dI) cI cJ [] sz)) (va_Qi (fun (r : Int32) (_ : Unit) => r = (f_FL_hasWord pl wd)) (fun _ => bc_post (dC, dI) cI cJ (va_A [] sz) []) (va_A [] sz)) 0 0 (va_A [] sz) := by
  refine Met.ofW (cc := prog_3_method_2_code) (maxL := 2) (ret := (some .boolean)) (by decide) rfl ?_
  intro p e s m args below meth c s₁ B hml hv
  obtain ⟨rfl, hsz, hP, hK, hD0, hE⟩ := hv
  have hx := B.exec
  have hb := B.bytes
  have hr := B.returns
  have hts : ∀ w ∈ bc_G, w.before ([.int pl, .int wd] : List Value).toArray s = true := fun w h => atoms_spec (ws := ws_FL_hasWord) B.pre w (List.mem_cons_of_mem _ h)
  have hown : s.vm.findClass "BootChain$Flash" = some m.cls := findClass_of_methodNamed B.named
  have hlocks := B.notSynchronized
  subst hsz
  have hD := hD0.self (sz := s.heap.size)
  generalize hAe : va_A [] s.heap.size = A at hD hE ⊢
  have hA : ∀ q : Nat, s.heap.size ≤ q → A q := fun q h => by rw [← hAe]; exact Or.inr h
  have hS : va_S A s.heap s.heap [] := va_S.rf
  have hl := lv_entry ([.int pl, .int wd]) (n := 2) (Nat.le_of_ble_eq_true rfl)
  rw [lg_entry_eq]
  generalize (lg_sl ([.int pl, .int wd]) ++ List.replicate (2 - (lg_sl ([.int pl, .int wd])).length) Slot.unset).toArray = ls at hl ⊢
  have hl : lv_has ls 2 [(0, .int pl), (1, .int wd)] := hl
  refine lv_iload_n hx hb d_FL_hasWord_0 rfl (lv_at hl 0 rfl) ?_
  refine lv_if_lt (tgt := 14) hx hb d_FL_hasWord_1 (by decide) (fun h7 => ?_) (fun h7 => ?_)
  · refine lv_iconst (v := 0) hx hb d_FL_hasWord_14 (by decide) ?_
    have e0 : (f_FL_hasWord pl wd) = (0 : Int32) := by rw [f_FL_hasWord, if_pos h7]
    rw [e0]
    exact W.zret (v := (0 : Int32)) (ty := .boolean) hx hb hr (rfl) (fun t ht hW => ⟨⟨(0 : Int32), (), rfl, rfl, by rw [ht]; exact hP, va_K.moved hW.alike hK, hD⟩, hS.F ht⟩) hS.2.2 d_FL_hasWord_15
  · refine lv_iload_n hx hb d_FL_hasWord_4 rfl (lv_at hl 0 rfl) ?_
    refine lv_bipush (v := 6) hx hb d_FL_hasWord_5 (by decide) ?_
    refine lv_icmp_ge (tgt := 14) hx hb d_FL_hasWord_7 (by decide) (fun h8 => ?_) (fun h8 => ?_)
    · refine lv_iconst (v := 0) hx hb d_FL_hasWord_14 (by decide) ?_
      have e0 : (f_FL_hasWord pl wd) = (0 : Int32) := by rw [f_FL_hasWord, if_neg h7, if_pos h8]
      rw [e0]
      exact W.zret (v := (0 : Int32)) (ty := .boolean) hx hb hr (rfl) (fun t ht hW => ⟨⟨(0 : Int32), (), rfl, rfl, by rw [ht]; exact hP, va_K.moved hW.alike hK, hD⟩, hS.F ht⟩) hS.2.2 d_FL_hasWord_15
    · refine lv_iload_n hx hb d_FL_hasWord_10 rfl (lv_at hl 1 rfl) ?_
      refine lv_if_ge (tgt := 16) hx hb d_FL_hasWord_11 (by decide) (fun h9 => ?_) (fun h9 => ?_)
      · refine lv_iload_n hx hb d_FL_hasWord_16 rfl (lv_at hl 1 rfl) ?_
        refine lv_iload_n hx hb d_FL_hasWord_17 rfl (lv_at hl 0 rfl) ?_
        refine lv_iconst (v := 4) hx hb d_FL_hasWord_18 (by decide) ?_
        refine lv_icmp_ge (tgt := 27) hx hb d_FL_hasWord_19 (by decide) (fun h10 => ?_) (fun h10 => ?_)
        · refine lv_iconst (v := 3) hx hb d_FL_hasWord_27 (by decide) ?_
          refine lv_icmp_ge (tgt := 35) hx hb d_FL_hasWord_28 (by decide) (fun h11 => ?_) (fun h11 => ?_)
          · refine lv_iconst (v := 0) hx hb d_FL_hasWord_35 (by decide) ?_
            have e0 : (f_FL_hasWord pl wd) = (0 : Int32) := by rw [f_FL_hasWord, if_neg h7, if_neg h8, if_pos h9, if_pos h10, if_pos h11]
            rw [e0]
            exact W.zret (v := (0 : Int32)) (ty := .boolean) hx hb hr (rfl) (fun t ht hW => ⟨⟨(0 : Int32), (), rfl, rfl, by rw [ht]; exact hP, va_K.moved hW.alike hK, hD⟩, hS.F ht⟩) hS.2.2 d_FL_hasWord_36
          · refine lv_iconst (v := 1) hx hb d_FL_hasWord_31 (by decide) ?_
            refine lv_goto (tgt := 36) hx hb d_FL_hasWord_32 (by decide) ?_
            have e0 : (f_FL_hasWord pl wd) = (1 : Int32) := by rw [f_FL_hasWord, if_neg h7, if_neg h8, if_pos h9, if_pos h10, if_neg h11]
            rw [e0]
            exact W.zret (v := (1 : Int32)) (ty := .boolean) hx hb hr (rfl) (fun t ht hW => ⟨⟨(1 : Int32), (), rfl, rfl, by rw [ht]; exact hP, va_K.moved hW.alike hK, hD⟩, hS.F ht⟩) hS.2.2 d_FL_hasWord_36
        · refine lv_bipush (v := 16) hx hb d_FL_hasWord_22 (by decide) ?_
          refine lv_goto (tgt := 28) hx hb d_FL_hasWord_24 (by decide) ?_
          refine lv_icmp_ge (tgt := 35) hx hb d_FL_hasWord_28 (by decide) (fun h12 => ?_) (fun h12 => ?_)
          · refine lv_iconst (v := 0) hx hb d_FL_hasWord_35 (by decide) ?_
            have e0 : (f_FL_hasWord pl wd) = (0 : Int32) := by rw [f_FL_hasWord, if_neg h7, if_neg h8, if_pos h9, if_neg h10, if_pos h12]
            rw [e0]
            exact W.zret (v := (0 : Int32)) (ty := .boolean) hx hb hr (rfl) (fun t ht hW => ⟨⟨(0 : Int32), (), rfl, rfl, by rw [ht]; exact hP, va_K.moved hW.alike hK, hD⟩, hS.F ht⟩) hS.2.2 d_FL_hasWord_36
          · refine lv_iconst (v := 1) hx hb d_FL_hasWord_31 (by decide) ?_
            refine lv_goto (tgt := 36) hx hb d_FL_hasWord_32 (by decide) ?_
            have e0 : (f_FL_hasWord pl wd) = (1 : Int32) := by rw [f_FL_hasWord, if_neg h7, if_neg h8, if_pos h9, if_neg h10, if_neg h12]
            rw [e0]
            exact W.zret (v := (1 : Int32)) (ty := .boolean) hx hb hr (rfl) (fun t ht hW => ⟨⟨(1 : Int32), (), rfl, rfl, by rw [ht]; exact hP, va_K.moved hW.alike hK, hD⟩, hS.F ht⟩) hS.2.2 d_FL_hasWord_36
      · refine lv_iconst (v := 0) hx hb d_FL_hasWord_14 (by decide) ?_
        have e0 : (f_FL_hasWord pl wd) = (0 : Int32) := by rw [f_FL_hasWord, if_neg h7, if_neg h8, if_neg h9]
        rw [e0]
        exact W.zret (v := (0 : Int32)) (ty := .boolean) hx hb hr (rfl) (fun t ht hW => ⟨⟨(0 : Int32), (), rfl, rfl, by rw [ht]; exact hP, va_K.moved hW.alike hK, hD⟩, hS.F ht⟩) hS.2.2 d_FL_hasWord_15
-- FL_indexOf
theorem d_FL_indexOf_0 : decode prog_3_method_3_code 0 = .ok (.iload_n 0, 1) := by decide +kernel
theorem d_FL_indexOf_1 : decode prog_3_method_3_code 1 = .ok (.iconst 4, 1) := by decide +kernel
theorem d_FL_indexOf_2 : decode prog_3_method_3_code 2 = .ok (.if_icmp .ge 10, 3) := by decide +kernel
theorem d_FL_indexOf_5 : decode prog_3_method_3_code 5 = .ok (.bipush 16, 2) := by decide +kernel
theorem d_FL_indexOf_7 : decode prog_3_method_3_code 7 = .ok (.iload_n 0, 1) := by decide +kernel
theorem d_FL_indexOf_8 : decode prog_3_method_3_code 8 = .ok (.imul, 1) := by decide +kernel
theorem d_FL_indexOf_9 : decode prog_3_method_3_code 9 = .ok (.iload_n 1, 1) := by decide +kernel
theorem d_FL_indexOf_10 : decode prog_3_method_3_code 10 = .ok (.iadd, 1) := by decide +kernel
theorem d_FL_indexOf_11 : decode prog_3_method_3_code 11 = .ok (.ireturn, 1) := by decide +kernel
theorem d_FL_indexOf_12 : decode prog_3_method_3_code 12 = .ok (.bipush 64, 2) := by decide +kernel
theorem d_FL_indexOf_14 : decode prog_3_method_3_code 14 = .ok (.iconst 3, 1) := by decide +kernel
theorem d_FL_indexOf_15 : decode prog_3_method_3_code 15 = .ok (.iload_n 0, 1) := by decide +kernel
theorem d_FL_indexOf_16 : decode prog_3_method_3_code 16 = .ok (.iconst 4, 1) := by decide +kernel
theorem d_FL_indexOf_17 : decode prog_3_method_3_code 17 = .ok (.isub, 1) := by decide +kernel
theorem d_FL_indexOf_18 : decode prog_3_method_3_code 18 = .ok (.imul, 1) := by decide +kernel
theorem d_FL_indexOf_19 : decode prog_3_method_3_code 19 = .ok (.iadd, 1) := by decide +kernel
theorem d_FL_indexOf_20 : decode prog_3_method_3_code 20 = .ok (.iload_n 1, 1) := by decide +kernel
theorem d_FL_indexOf_21 : decode prog_3_method_3_code 21 = .ok (.iadd, 1) := by decide +kernel
theorem d_FL_indexOf_22 : decode prog_3_method_3_code 22 = .ok (.ireturn, 1) := by decide +kernel
def y_FL_indexOf : MethodName := ⟨"BootChain$Flash", "indexOf", "(II)I"⟩
def ws_FL_indexOf : List Cond := .code y_FL_indexOf prog_3_method_3_code 2 (some .int) :: bc_G
def f_FL_indexOf (pl : Int32) (wd : Int32) : Int32 := if (4 : Int32) ≤ pl then (((64 : Int32) + ((3 : Int32) * (pl - (4 : Int32)))) + wd) else (((16 : Int32) * pl) + wd)
set_option maxHeartbeats 4000000 in
set_option maxRecDepth 100000 in
theorem c_FL_indexOf (l : Launch) (dC : Nat → ClassId) (dI : Nat → Nat → Nat) (cI cJ : ClassId) (sz : Nat) (pl : Int32) (wd : Int32) : Met l y_FL_indexOf ws_FL_indexOf ({ frames := 0, cells := 0, slots := 0, locals := 0 } : Room) (va_Pc [.int pl, .int wd] (bc_pre (dC, dI) cI cJ [] sz)) (va_Qi (fun (r : Int32) (_ : Unit) => r = (f_FL_indexOf pl wd)) (fun _ => bc_post (dC, dI) cI cJ (va_A [] sz) []) (va_A [] sz)) 0 0 (va_A [] sz) := by
  refine Met.ofW (cc := prog_3_method_3_code) (maxL := 2) (ret := (some .int)) (by decide) rfl ?_
  intro p e s m args below meth c s₁ B hml hv
  obtain ⟨rfl, hsz, hP, hK, hD0, hE⟩ := hv
  have hx := B.exec
  have hb := B.bytes
  have hr := B.returns
  have hts : ∀ w ∈ bc_G, w.before ([.int pl, .int wd] : List Value).toArray s = true := fun w h => atoms_spec (ws := ws_FL_indexOf) B.pre w (List.mem_cons_of_mem _ h)
  have hown : s.vm.findClass "BootChain$Flash" = some m.cls := findClass_of_methodNamed B.named
  have hlocks := B.notSynchronized
  subst hsz
  have hD := hD0.self (sz := s.heap.size)
  generalize hAe : va_A [] s.heap.size = A at hD hE ⊢
  have hA : ∀ q : Nat, s.heap.size ≤ q → A q := fun q h => by rw [← hAe]; exact Or.inr h
  have hS : va_S A s.heap s.heap [] := va_S.rf
  have hl := lv_entry ([.int pl, .int wd]) (n := 2) (Nat.le_of_ble_eq_true rfl)
  rw [lg_entry_eq]
  generalize (lg_sl ([.int pl, .int wd]) ++ List.replicate (2 - (lg_sl ([.int pl, .int wd])).length) Slot.unset).toArray = ls at hl ⊢
  have hl : lv_has ls 2 [(0, .int pl), (1, .int wd)] := hl
  refine lv_iload_n hx hb d_FL_indexOf_0 rfl (lv_at hl 0 rfl) ?_
  refine lv_iconst (v := 4) hx hb d_FL_indexOf_1 (by decide) ?_
  refine lv_icmp_ge (tgt := 12) hx hb d_FL_indexOf_2 (by decide) (fun h2 => ?_) (fun h2 => ?_)
  · refine lv_bipush (v := 64) hx hb d_FL_indexOf_12 (by decide) ?_
    refine lv_iconst (v := 3) hx hb d_FL_indexOf_14 (by decide) ?_
    refine lv_iload_n hx hb d_FL_indexOf_15 rfl (lv_at hl 0 rfl) ?_
    refine lv_iconst (v := 4) hx hb d_FL_indexOf_16 (by decide) ?_
    refine lv_isub hx hb d_FL_indexOf_17 ?_
    refine lv_imul hx hb d_FL_indexOf_18 ?_
    refine lv_iadd hx hb d_FL_indexOf_19 ?_
    refine lv_iload_n hx hb d_FL_indexOf_20 rfl (lv_at hl 1 rfl) ?_
    refine lv_iadd hx hb d_FL_indexOf_21 ?_
    have e0 : (f_FL_indexOf pl wd) = (((64 : Int32) + ((3 : Int32) * (pl - (4 : Int32)))) + wd) := by rw [f_FL_indexOf, if_pos h2]
    rw [e0]
    exact W.iret (v := (((64 : Int32) + ((3 : Int32) * (pl - (4 : Int32)))) + wd)) hx hb hr (fun t ht hW => ⟨⟨(((64 : Int32) + ((3 : Int32) * (pl - (4 : Int32)))) + wd), (), rfl, rfl, by rw [ht]; exact hP, va_K.moved hW.alike hK, hD⟩, hS.F ht⟩) hS.2.2 d_FL_indexOf_22
  · refine lv_bipush (v := 16) hx hb d_FL_indexOf_5 (by decide) ?_
    refine lv_iload_n hx hb d_FL_indexOf_7 rfl (lv_at hl 0 rfl) ?_
    refine lv_imul hx hb d_FL_indexOf_8 ?_
    refine lv_iload_n hx hb d_FL_indexOf_9 rfl (lv_at hl 1 rfl) ?_
    refine lv_iadd hx hb d_FL_indexOf_10 ?_
    have e0 : (f_FL_indexOf pl wd) = (((16 : Int32) * pl) + wd) := by rw [f_FL_indexOf, if_neg h2]
    rw [e0]
    exact W.iret (v := (((16 : Int32) * pl) + wd)) hx hb hr (fun t ht hW => ⟨⟨(((16 : Int32) * pl) + wd), (), rfl, rfl, by rw [ht]; exact hP, va_K.moved hW.alike hK, hD⟩, hS.F ht⟩) hS.2.2 d_FL_indexOf_11
-- FL_sumOf
theorem d_FL_sumOf_0 : decode prog_3_method_13_code 0 = .ok (.bipush 31, 2) := by decide +kernel
theorem d_FL_sumOf_2 : decode prog_3_method_13_code 2 = .ok (.iload_n 0, 1) := by decide +kernel
theorem d_FL_sumOf_3 : decode prog_3_method_13_code 3 = .ok (.imul, 1) := by decide +kernel
theorem d_FL_sumOf_4 : decode prog_3_method_13_code 4 = .ok (.iload_n 1, 1) := by decide +kernel
theorem d_FL_sumOf_5 : decode prog_3_method_13_code 5 = .ok (.iadd, 1) := by decide +kernel
theorem d_FL_sumOf_6 : decode prog_3_method_13_code 6 = .ok (.sipush 12345, 3) := by decide +kernel
theorem d_FL_sumOf_9 : decode prog_3_method_13_code 9 = .ok (.iadd, 1) := by decide +kernel
theorem d_FL_sumOf_10 : decode prog_3_method_13_code 10 = .ok (.ireturn, 1) := by decide +kernel
def y_FL_sumOf : MethodName := ⟨"BootChain$Flash", "sumOf", "(II)I"⟩
def ws_FL_sumOf : List Cond := .code y_FL_sumOf prog_3_method_13_code 2 (some .int) :: bc_G
def f_FL_sumOf (se : Int32) (st : Int32) : Int32 := ((((31 : Int32) * se) + st) + (12345 : Int32))
set_option maxHeartbeats 4000000 in
set_option maxRecDepth 100000 in
theorem c_FL_sumOf (l : Launch) (dC : Nat → ClassId) (dI : Nat → Nat → Nat) (cI cJ : ClassId) (sz : Nat) (se : Int32) (st : Int32) : Met l y_FL_sumOf ws_FL_sumOf ({ frames := 0, cells := 0, slots := 0, locals := 0 } : Room) (va_Pc [.int se, .int st] (bc_pre (dC, dI) cI cJ [] sz)) (va_Qi (fun (r : Int32) (_ : Unit) => r = (f_FL_sumOf se st)) (fun _ => bc_post (dC, dI) cI cJ (va_A [] sz) []) (va_A [] sz)) 0 0 (va_A [] sz) := by
  refine Met.ofW (cc := prog_3_method_13_code) (maxL := 2) (ret := (some .int)) (by decide) rfl ?_
  intro p e s m args below meth c s₁ B hml hv
  obtain ⟨rfl, hsz, hP, hK, hD0, hE⟩ := hv
  have hx := B.exec
  have hb := B.bytes
  have hr := B.returns
  have hts : ∀ w ∈ bc_G, w.before ([.int se, .int st] : List Value).toArray s = true := fun w h => atoms_spec (ws := ws_FL_sumOf) B.pre w (List.mem_cons_of_mem _ h)
  have hown : s.vm.findClass "BootChain$Flash" = some m.cls := findClass_of_methodNamed B.named
  have hlocks := B.notSynchronized
  subst hsz
  have hD := hD0.self (sz := s.heap.size)
  generalize hAe : va_A [] s.heap.size = A at hD hE ⊢
  have hA : ∀ q : Nat, s.heap.size ≤ q → A q := fun q h => by rw [← hAe]; exact Or.inr h
  have hS : va_S A s.heap s.heap [] := va_S.rf
  have hl := lv_entry ([.int se, .int st]) (n := 2) (Nat.le_of_ble_eq_true rfl)
  rw [lg_entry_eq]
  generalize (lg_sl ([.int se, .int st]) ++ List.replicate (2 - (lg_sl ([.int se, .int st])).length) Slot.unset).toArray = ls at hl ⊢
  have hl : lv_has ls 2 [(0, .int se), (1, .int st)] := hl
  refine lv_bipush (v := 31) hx hb d_FL_sumOf_0 (by decide) ?_
  refine lv_iload_n hx hb d_FL_sumOf_2 rfl (lv_at hl 0 rfl) ?_
  refine lv_imul hx hb d_FL_sumOf_3 ?_
  refine lv_iload_n hx hb d_FL_sumOf_4 rfl (lv_at hl 1 rfl) ?_
  refine lv_iadd hx hb d_FL_sumOf_5 ?_
  refine lv_sipush (v := 12345) hx hb d_FL_sumOf_6 (by decide) ?_
  refine lv_iadd hx hb d_FL_sumOf_9 ?_
  have e0 : (f_FL_sumOf se st) = ((((31 : Int32) * se) + st) + (12345 : Int32)) := by rw [f_FL_sumOf]
  rw [e0]
  exact W.iret (v := ((((31 : Int32) * se) + st) + (12345 : Int32))) hx hb hr (fun t ht hW => ⟨⟨((((31 : Int32) * se) + st) + (12345 : Int32)), (), rfl, rfl, by rw [ht]; exact hP, va_K.moved hW.alike hK, hD⟩, hS.F ht⟩) hS.2.2 d_FL_sumOf_10
-- FL_allowWrites
theorem d_FL_allowWrites_0 : decode prog_3_method_4_code 0 = .ok (.aload_n 0, 1) := by decide +kernel
theorem d_FL_allowWrites_1 : decode prog_3_method_4_code 1 = .ok (.iload_n 1, 1) := by decide +kernel
theorem d_FL_allowWrites_2 : decode prog_3_method_4_code 2 = .ok (.putfield 15, 3) := by decide +kernel
theorem d_FL_allowWrites_5 : decode prog_3_method_4_code 5 = .ok (.return_, 1) := by decide +kernel
def y_FL_allowWrites : MethodName := ⟨"BootChain$Flash", "allowWrites", "(I)V"⟩
def ws_FL_allowWrites : List Cond := .code y_FL_allowWrites prog_3_method_4_code 2 none :: bc_G
def f_FL_allowWrites (n0 : Int32) (wl : Int32) (w : Nat → Int32) : Int32 := n0
set_option maxHeartbeats 4000000 in
set_option maxRecDepth 100000 in
theorem c_FL_allowWrites (l : Launch) (dC : Nat → ClassId) (dI : Nat → Nat → Nat) (cI cJ : ClassId) (h hw : Nat) (sz : Nat) (n0 : Int32) (wl : Int32) (w : Nat → Int32) : Met l y_FL_allowWrites ws_FL_allowWrites ({ frames := 0, cells := 0, slots := 0, locals := 0 } : Room) (va_Pc [.ref h, .int n0] (bc_pre (dC, dI) cI cJ [(h, .inr (1, [.ref hw, .int wl])), (hw, .inl (cI, 70, .inl w))] sz)) (va_Qv (fun (_ : Unit) => True) (fun _ => bc_post (dC, dI) cI cJ (va_A [(h, .inr (1, [.ref hw, .int wl])), (hw, .inl (cI, 70, .inl w))] sz) [(h, .inr (1, [.ref hw, .int (f_FL_allowWrites n0 wl w)])), (hw, .inl (cI, 70, .inl w))]) (va_A [(h, .inr (1, [.ref hw, .int wl])), (hw, .inl (cI, 70, .inl w))] sz)) 0 0 (va_A [(h, .inr (1, [.ref hw, .int wl])), (hw, .inl (cI, 70, .inl w))] sz) := by
  refine Met.ofW (cc := prog_3_method_4_code) (maxL := 2) (ret := none) (by decide) rfl ?_
  intro p e s m args below meth c s₁ B hml hv
  obtain ⟨rfl, hsz, hP, hK, hD0, hE⟩ := hv
  have hx := B.exec
  have hb := B.bytes
  have hr := B.returns
  have hts : ∀ w ∈ bc_G, w.before ([.ref h, .int n0] : List Value).toArray s = true := fun w h => atoms_spec (ws := ws_FL_allowWrites) B.pre w (List.mem_cons_of_mem _ h)
  have hown : s.vm.findClass "BootChain$Flash" = some m.cls := findClass_of_methodNamed B.named
  have hlocks := B.notSynchronized
  subst hsz
  have hD := hD0.self (sz := s.heap.size)
  generalize hAe : va_A [(h, .inr (1, [.ref hw, .int wl])), (hw, .inl (cI, 70, .inl w))] s.heap.size = A at hD hE ⊢
  have hA : ∀ q : Nat, s.heap.size ≤ q → A q := fun q h => by rw [← hAe]; exact Or.inr h
  have hS : va_S A s.heap s.heap [] := va_S.rf
  have hl := lv_entry ([.ref h, .int n0]) (n := 2) (Nat.le_of_ble_eq_true rfl)
  rw [lg_entry_eq]
  generalize (lg_sl ([.ref h, .int n0]) ++ List.replicate (2 - (lg_sl ([.ref h, .int n0])).length) Slot.unset).toArray = ls at hl ⊢
  have hl : lv_has ls 2 [(0, .ref h), (1, .int n0)] := hl
  refine lv_aload_n hx hb d_FL_allowWrites_0 rfl (lv_at hl 0 rfl) ?_
  refine lv_iload_n hx hb d_FL_allowWrites_1 rfl (lv_at hl 1 rfl) ?_
  refine va_put (D := (dC, dI)) (ci := 1) (v := .int n0) (ty := .int) (C := R_FL) (T := F_FL) (N := 2) hx hb hts in_FL t_FL t_FL_ok n_FL hown hK hP hD hS 0 rfl rfl 1 (by decide) (hts _ gw_28) (fun _ h9 => h9) rfl (by decide +kernel) rfl rfl (Nat.le_of_ble_eq_true rfl) d_FL_allowWrites_2 (fun H locs hP hD hS => ?_)
  have hP : va_P (dC, dI) classes [(h, .inr (1, [.ref hw, .int n0])), (hw, .inl (cI, 70, .inl w))] H := hP
  have hD : va_D A [(h, .inr (1, [.ref hw, .int n0])), (hw, .inl (cI, 70, .inl w))] := hD
  have e0 : (f_FL_allowWrites n0 wl w) = n0 := by rw [f_FL_allowWrites]
  rw [e0]
  exact W.vret hx hb hr (fun t ht hW => ⟨⟨(), rfl, trivial, by rw [ht]; exact hP, va_K.moved hW.alike hK, hD⟩, hS.F ht⟩) hS.2.2 d_FL_allowWrites_5
-- FL_read
theorem d_FL_read_0 : decode prog_3_method_5_code 0 = .ok (.aload_n 0, 1) := by decide +kernel
theorem d_FL_read_1 : decode prog_3_method_5_code 1 = .ok (.getfield 9, 3) := by decide +kernel
theorem d_FL_read_4 : decode prog_3_method_5_code 4 = .ok (.iload_n 1, 1) := by decide +kernel
theorem d_FL_read_5 : decode prog_3_method_5_code 5 = .ok (.iload_n 2, 1) := by decide +kernel
theorem d_FL_read_6 : decode prog_3_method_5_code 6 = .ok (.invokestatic 19, 3) := by decide +kernel
theorem d_FL_read_9 : decode prog_3_method_5_code 9 = .ok (.iaload, 1) := by decide +kernel
theorem d_FL_read_10 : decode prog_3_method_5_code 10 = .ok (.ireturn, 1) := by decide +kernel
def y_FL_read : MethodName := ⟨"BootChain$Flash", "read", "(II)I"⟩
def ws_FL_read : List Cond := .code y_FL_read prog_3_method_5_code 3 (some .int) :: bc_G
def f_FL_read (pl : Int32) (wd : Int32) (wl : Int32) (w : Nat → Int32) : Int32 := (w ((f_FL_indexOf pl wd)).toNatClampNeg)
set_option maxHeartbeats 4000000 in
set_option maxRecDepth 100000 in
theorem c_FL_read (l : Launch) (dC : Nat → ClassId) (dI : Nat → Nat → Nat) (cI cJ : ClassId) (h hw : Nat) (sz : Nat) (pl : Int32) (wd : Int32) (wl : Int32) (w : Nat → Int32) (hi : vp_in (f_FL_indexOf pl wd) 70) : Met l y_FL_read ws_FL_read ({ frames := 1, cells := 0, slots := 0, locals := 21 } : Room) (va_Pc [.ref h, .int pl, .int wd] (bc_pre (dC, dI) cI cJ [(h, .inr (1, [.ref hw, .int wl])), (hw, .inl (cI, 70, .inl w))] sz)) (va_Qi (fun (r : Int32) (_ : Unit) => r = (f_FL_read pl wd wl w)) (fun _ => bc_post (dC, dI) cI cJ (va_A [(h, .inr (1, [.ref hw, .int wl])), (hw, .inl (cI, 70, .inl w))] sz) [(h, .inr (1, [.ref hw, .int wl])), (hw, .inl (cI, 70, .inl w))]) (va_A [(h, .inr (1, [.ref hw, .int wl])), (hw, .inl (cI, 70, .inl w))] sz)) 0 0 (va_A [(h, .inr (1, [.ref hw, .int wl])), (hw, .inl (cI, 70, .inl w))] sz) := by
  refine Met.ofW (cc := prog_3_method_5_code) (maxL := 3) (ret := (some .int)) (by decide) rfl ?_
  intro p e s m args below meth c s₁ B hml hv
  obtain ⟨rfl, hsz, hP, hK, hD0, hE⟩ := hv
  have hx := B.exec
  have hb := B.bytes
  have hr := B.returns
  have hts : ∀ w ∈ bc_G, w.before ([.ref h, .int pl, .int wd] : List Value).toArray s = true := fun w h => atoms_spec (ws := ws_FL_read) B.pre w (List.mem_cons_of_mem _ h)
  have hown : s.vm.findClass "BootChain$Flash" = some m.cls := findClass_of_methodNamed B.named
  have hlocks := B.notSynchronized
  subst hsz
  have hD := hD0.self (sz := s.heap.size)
  generalize hAe : va_A [(h, .inr (1, [.ref hw, .int wl])), (hw, .inl (cI, 70, .inl w))] s.heap.size = A at hD hE ⊢
  have hA : ∀ q : Nat, s.heap.size ≤ q → A q := fun q h => by rw [← hAe]; exact Or.inr h
  have hS : va_S A s.heap s.heap [] := va_S.rf
  have hl := lv_entry ([.ref h, .int pl, .int wd]) (n := 3) (Nat.le_of_ble_eq_true rfl)
  rw [lg_entry_eq]
  generalize (lg_sl ([.ref h, .int pl, .int wd]) ++ List.replicate (3 - (lg_sl ([.ref h, .int pl, .int wd])).length) Slot.unset).toArray = ls at hl ⊢
  have hl : lv_has ls 3 [(0, .ref h), (1, .int pl), (2, .int wd)] := hl
  refine lv_aload_n hx hb d_FL_read_0 rfl (lv_at hl 0 rfl) ?_
  refine va_get (D := (dC, dI)) (ci := 1) (v := .ref hw) (C := R_FL) (T := F_FL) (N := 2) hx hb hts in_FL hown hK hP 0 rfl rfl 0 (by decide) (hts _ gw_27) (fun _ h9 => h9) rfl d_FL_read_1 ?_
  refine lv_iload_n hx hb d_FL_read_4 rfl (lv_at hl 1 rfl) ?_
  refine lv_iload_n hx hb d_FL_read_5 rfl (lv_at hl 2 rfl) ?_
  have hPc := hP.sub (ws' := []) [] rfl
  have hDc := hD.sub (ws' := []) [] (by decide) rfl
  have hFc := va_free (wc := []) hD hS hA [] rfl
  refine va_calli (va_runS (As := [.int pl, .int wd]) (rest := [.ref hw]) ⟨hx, hb, hml, hown, hts⟩ (c_FL_indexOf l dC dI cI cJ _ pl wd) ⟨callB_of 2 hts (bc_good gw_102) rfl rfl rfl (hts _ gw_2) (hts _ gw_100) (by decide +kernel) ⟨Nat.le_of_ble_eq_true rfl, Nat.le_of_ble_eq_true rfl⟩, (hts _ gw_101)⟩ ⟨bc_blind, fun U hU hW => ⟨rfl, bc_give hPc hDc hK hE hS hFc U hU hW⟩⟩ rfl rfl hl.1 rfl (lv_room (Nat.le_of_ble_eq_true rfl)) d_FL_read_6 ⟨Nat.le_of_ble_eq_true rfl, Nat.le_of_ble_eq_true rfl⟩) hS (fun q _ h => hFc q h) hFc (fun r u t H9 locs ht hvm hp hB hz1 hk1 hS => ?_)
  subst hp
  obtain ⟨hP, hD⟩ := va_join (wr := [(h, .inr (1, [.ref hw, .int wl])), (hw, .inl (cI, 70, .inl w))]) (w1 := []) hP hD [] [0, 1] rfl rfl (by decide) (by decide) hk1 hFc (ht ▸ hB.1) hB.2.2
  have hP := hP.sub (ws' := [(h, .inr (1, [.ref hw, .int wl])), (hw, .inl (cI, 70, .inl w))]) [0, 1] rfl
  have hD := hD.sub (ws' := [(h, .inr (1, [.ref hw, .int wl])), (hw, .inl (cI, 70, .inl w))]) [0, 1] (by decide) rfl
  generalize H9 = H at hP hS ⊢
  refine va_iald hx hb hK hP 1 0 rfl rfl (hi) d_FL_read_9 ?_
  have e0 : (f_FL_read pl wd wl w) = (w ((f_FL_indexOf pl wd)).toNatClampNeg) := by rw [f_FL_read]
  rw [e0]
  exact W.iret (v := (w ((f_FL_indexOf pl wd)).toNatClampNeg)) hx hb hr (fun t ht hW => ⟨⟨(w ((f_FL_indexOf pl wd)).toNatClampNeg), (), rfl, rfl, by rw [ht]; exact hP, va_K.moved hW.alike hK, hD⟩, hS.F ht⟩) hS.2.2 d_FL_read_10
-- FL_turnOver
theorem d_FL_turnOver_0 : decode prog_3_method_6_code 0 = .ok (.aload_n 0, 1) := by decide +kernel
theorem d_FL_turnOver_1 : decode prog_3_method_6_code 1 = .ok (.getfield 9, 3) := by decide +kernel
theorem d_FL_turnOver_4 : decode prog_3_method_6_code 4 = .ok (.iload_n 1, 1) := by decide +kernel
theorem d_FL_turnOver_5 : decode prog_3_method_6_code 5 = .ok (.iload_n 2, 1) := by decide +kernel
theorem d_FL_turnOver_6 : decode prog_3_method_6_code 6 = .ok (.invokestatic 19, 3) := by decide +kernel
theorem d_FL_turnOver_9 : decode prog_3_method_6_code 9 = .ok (.dup2, 1) := by decide +kernel
theorem d_FL_turnOver_10 : decode prog_3_method_6_code 10 = .ok (.iaload, 1) := by decide +kernel
theorem d_FL_turnOver_11 : decode prog_3_method_6_code 11 = .ok (.iload_n 3, 1) := by decide +kernel
theorem d_FL_turnOver_12 : decode prog_3_method_6_code 12 = .ok (.ixor, 1) := by decide +kernel
theorem d_FL_turnOver_13 : decode prog_3_method_6_code 13 = .ok (.iastore, 1) := by decide +kernel
theorem d_FL_turnOver_14 : decode prog_3_method_6_code 14 = .ok (.return_, 1) := by decide +kernel
def y_FL_turnOver : MethodName := ⟨"BootChain$Flash", "turnOver", "(III)V"⟩
def ws_FL_turnOver : List Cond := .code y_FL_turnOver prog_3_method_6_code 4 none :: bc_G
def f_FL_turnOver (pl : Int32) (wd : Int32) (bi : Int32) (wl : Int32) (w : Nat → Int32) : (Nat → Int32) := (upd w ((f_FL_indexOf pl wd)).toNatClampNeg ((w ((f_FL_indexOf pl wd)).toNatClampNeg) ^^^ bi))
set_option maxHeartbeats 4000000 in
set_option maxRecDepth 100000 in
theorem c_FL_turnOver (l : Launch) (dC : Nat → ClassId) (dI : Nat → Nat → Nat) (cI cJ : ClassId) (h hw : Nat) (sz : Nat) (pl : Int32) (wd : Int32) (bi : Int32) (wl : Int32) (w : Nat → Int32) (hi : vp_in (f_FL_indexOf pl wd) 70) : Met l y_FL_turnOver ws_FL_turnOver ({ frames := 1, cells := 0, slots := 0, locals := 21 } : Room) (va_Pc [.ref h, .int pl, .int wd, .int bi] (bc_pre (dC, dI) cI cJ [(h, .inr (1, [.ref hw, .int wl])), (hw, .inl (cI, 70, .inl w))] sz)) (va_Qv (fun (_ : Unit) => True) (fun _ => bc_post (dC, dI) cI cJ (va_A [(h, .inr (1, [.ref hw, .int wl])), (hw, .inl (cI, 70, .inl w))] sz) [(h, .inr (1, [.ref hw, .int wl])), (hw, .inl (cI, 70, .inl (f_FL_turnOver pl wd bi wl w)))]) (va_A [(h, .inr (1, [.ref hw, .int wl])), (hw, .inl (cI, 70, .inl w))] sz)) 0 0 (va_A [(h, .inr (1, [.ref hw, .int wl])), (hw, .inl (cI, 70, .inl w))] sz) := by
  refine Met.ofW (cc := prog_3_method_6_code) (maxL := 4) (ret := none) (by decide) rfl ?_
  intro p e s m args below meth c s₁ B hml hv
  obtain ⟨rfl, hsz, hP, hK, hD0, hE⟩ := hv
  have hx := B.exec
  have hb := B.bytes
  have hr := B.returns
  have hts : ∀ w ∈ bc_G, w.before ([.ref h, .int pl, .int wd, .int bi] : List Value).toArray s = true := fun w h => atoms_spec (ws := ws_FL_turnOver) B.pre w (List.mem_cons_of_mem _ h)
  have hown : s.vm.findClass "BootChain$Flash" = some m.cls := findClass_of_methodNamed B.named
  have hlocks := B.notSynchronized
  subst hsz
  have hD := hD0.self (sz := s.heap.size)
  generalize hAe : va_A [(h, .inr (1, [.ref hw, .int wl])), (hw, .inl (cI, 70, .inl w))] s.heap.size = A at hD hE ⊢
  have hA : ∀ q : Nat, s.heap.size ≤ q → A q := fun q h => by rw [← hAe]; exact Or.inr h
  have hS : va_S A s.heap s.heap [] := va_S.rf
  have hl := lv_entry ([.ref h, .int pl, .int wd, .int bi]) (n := 4) (Nat.le_of_ble_eq_true rfl)
  rw [lg_entry_eq]
  generalize (lg_sl ([.ref h, .int pl, .int wd, .int bi]) ++ List.replicate (4 - (lg_sl ([.ref h, .int pl, .int wd, .int bi])).length) Slot.unset).toArray = ls at hl ⊢
  have hl : lv_has ls 4 [(0, .ref h), (1, .int pl), (2, .int wd), (3, .int bi)] := hl
  refine lv_aload_n hx hb d_FL_turnOver_0 rfl (lv_at hl 0 rfl) ?_
  refine va_get (D := (dC, dI)) (ci := 1) (v := .ref hw) (C := R_FL) (T := F_FL) (N := 2) hx hb hts in_FL hown hK hP 0 rfl rfl 0 (by decide) (hts _ gw_27) (fun _ h9 => h9) rfl d_FL_turnOver_1 ?_
  refine lv_iload_n hx hb d_FL_turnOver_4 rfl (lv_at hl 1 rfl) ?_
  refine lv_iload_n hx hb d_FL_turnOver_5 rfl (lv_at hl 2 rfl) ?_
  have hPc := hP.sub (ws' := []) [] rfl
  have hDc := hD.sub (ws' := []) [] (by decide) rfl
  have hFc := va_free (wc := []) hD hS hA [] rfl
  refine va_calli (va_runS (As := [.int pl, .int wd]) (rest := [.ref hw]) ⟨hx, hb, hml, hown, hts⟩ (c_FL_indexOf l dC dI cI cJ _ pl wd) ⟨callB_of 2 hts (bc_good gw_102) rfl rfl rfl (hts _ gw_2) (hts _ gw_100) (by decide +kernel) ⟨Nat.le_of_ble_eq_true rfl, Nat.le_of_ble_eq_true rfl⟩, (hts _ gw_101)⟩ ⟨bc_blind, fun U hU hW => ⟨rfl, bc_give hPc hDc hK hE hS hFc U hU hW⟩⟩ rfl rfl hl.1 rfl (lv_room (Nat.le_of_ble_eq_true rfl)) d_FL_turnOver_6 ⟨Nat.le_of_ble_eq_true rfl, Nat.le_of_ble_eq_true rfl⟩) hS (fun q _ h => hFc q h) hFc (fun r u t H9 locs ht hvm hp hB hz1 hk1 hS => ?_)
  subst hp
  obtain ⟨hP, hD⟩ := va_join (wr := [(h, .inr (1, [.ref hw, .int wl])), (hw, .inl (cI, 70, .inl w))]) (w1 := []) hP hD [] [0, 1] rfl rfl (by decide) (by decide) hk1 hFc (ht ▸ hB.1) hB.2.2
  have hP := hP.sub (ws' := [(h, .inr (1, [.ref hw, .int wl])), (hw, .inl (cI, 70, .inl w))]) [0, 1] rfl
  have hD := hD.sub (ws' := [(h, .inr (1, [.ref hw, .int wl])), (hw, .inl (cI, 70, .inl w))]) [0, 1] (by decide) rfl
  generalize H9 = H at hP hS ⊢
  refine lv_dup2_11 hx hb d_FL_turnOver_9 rfl rfl ?_
  refine va_iald hx hb hK hP 1 0 rfl rfl (hi) d_FL_turnOver_10 ?_
  refine lv_iload_n hx hb d_FL_turnOver_11 rfl (lv_at hl 3 rfl) ?_
  refine lv_ixor hx hb d_FL_turnOver_12 ?_
  refine va_iast hx hb hK hP hD hS 1 0 rfl rfl (hi) d_FL_turnOver_13 (fun H locs hP hD hS => ?_)
  have hP : va_P (dC, dI) classes [(h, .inr (1, [.ref hw, .int wl])), (hw, .inl (cI, 70, .inl (upd w ((f_FL_indexOf pl wd)).toNatClampNeg ((w ((f_FL_indexOf pl wd)).toNatClampNeg) ^^^ bi))))] H := hP
  have hD : va_D A [(h, .inr (1, [.ref hw, .int wl])), (hw, .inl (cI, 70, .inl (upd w ((f_FL_indexOf pl wd)).toNatClampNeg ((w ((f_FL_indexOf pl wd)).toNatClampNeg) ^^^ bi))))] := hD
  have e0 : (f_FL_turnOver pl wd bi wl w) = (upd w ((f_FL_indexOf pl wd)).toNatClampNeg ((w ((f_FL_indexOf pl wd)).toNatClampNeg) ^^^ bi)) := by rw [f_FL_turnOver]
  rw [e0]
  exact W.vret hx hb hr (fun t ht hW => ⟨⟨(), rfl, trivial, by rw [ht]; exact hP, va_K.moved hW.alike hK, hD⟩, hS.F ht⟩) hS.2.2 d_FL_turnOver_14
-- FL_write
theorem d_FL_write_0 : decode prog_3_method_7_code 0 = .ok (.aload_n 0, 1) := by decide +kernel
theorem d_FL_write_1 : decode prog_3_method_7_code 1 = .ok (.getfield 15, 3) := by decide +kernel
theorem d_FL_write_4 : decode prog_3_method_7_code 4 = .ok (.ifCond .ne 5, 3) := by decide +kernel
theorem d_FL_write_7 : decode prog_3_method_7_code 7 = .ok (.iconst 0, 1) := by decide +kernel
theorem d_FL_write_8 : decode prog_3_method_7_code 8 = .ok (.ireturn, 1) := by decide +kernel
theorem d_FL_write_9 : decode prog_3_method_7_code 9 = .ok (.aload_n 0, 1) := by decide +kernel
theorem d_FL_write_10 : decode prog_3_method_7_code 10 = .ok (.getfield 15, 3) := by decide +kernel
theorem d_FL_write_13 : decode prog_3_method_7_code 13 = .ok (.iconst (-1), 1) := by decide +kernel
theorem d_FL_write_14 : decode prog_3_method_7_code 14 = .ok (.if_icmp .eq 13, 3) := by decide +kernel
theorem d_FL_write_17 : decode prog_3_method_7_code 17 = .ok (.aload_n 0, 1) := by decide +kernel
theorem d_FL_write_18 : decode prog_3_method_7_code 18 = .ok (.dup, 1) := by decide +kernel
theorem d_FL_write_19 : decode prog_3_method_7_code 19 = .ok (.getfield 15, 3) := by decide +kernel
theorem d_FL_write_22 : decode prog_3_method_7_code 22 = .ok (.iconst 1, 1) := by decide +kernel
theorem d_FL_write_23 : decode prog_3_method_7_code 23 = .ok (.isub, 1) := by decide +kernel
theorem d_FL_write_24 : decode prog_3_method_7_code 24 = .ok (.putfield 15, 3) := by decide +kernel
theorem d_FL_write_27 : decode prog_3_method_7_code 27 = .ok (.aload_n 0, 1) := by decide +kernel
theorem d_FL_write_28 : decode prog_3_method_7_code 28 = .ok (.getfield 9, 3) := by decide +kernel
theorem d_FL_write_31 : decode prog_3_method_7_code 31 = .ok (.iload_n 1, 1) := by decide +kernel
theorem d_FL_write_32 : decode prog_3_method_7_code 32 = .ok (.iload_n 2, 1) := by decide +kernel
theorem d_FL_write_33 : decode prog_3_method_7_code 33 = .ok (.invokestatic 19, 3) := by decide +kernel
theorem d_FL_write_36 : decode prog_3_method_7_code 36 = .ok (.iload_n 3, 1) := by decide +kernel
theorem d_FL_write_37 : decode prog_3_method_7_code 37 = .ok (.iastore, 1) := by decide +kernel
theorem d_FL_write_38 : decode prog_3_method_7_code 38 = .ok (.iconst 1, 1) := by decide +kernel
theorem d_FL_write_39 : decode prog_3_method_7_code 39 = .ok (.ireturn, 1) := by decide +kernel
def y_FL_write : MethodName := ⟨"BootChain$Flash", "write", "(III)Z"⟩
def ws_FL_write : List Cond := .code y_FL_write prog_3_method_7_code 4 (some .boolean) :: bc_G
def f_FL_write_j27 (pl : Int32) (wd : Int32) (va : Int32) (wl : Int32) (w : Nat → Int32) (y0_1 : Int32) (y1 : Nat → Int32) : Int32 × Int32 × (Nat → Int32) := ((1 : Int32), y0_1, (upd y1 ((f_FL_indexOf pl wd)).toNatClampNeg va))
def f_FL_write (pl : Int32) (wd : Int32) (va : Int32) (wl : Int32) (w : Nat → Int32) : Int32 × Int32 × (Nat → Int32) := if wl = 0 then ((0 : Int32), wl, w) else if wl = (-1 : Int32) then f_FL_write_j27 pl wd va wl w wl w else f_FL_write_j27 pl wd va wl w (wl - (1 : Int32)) w
set_option maxHeartbeats 4000000 in
set_option maxRecDepth 100000 in
theorem c_FL_write (l : Launch) (dC : Nat → ClassId) (dI : Nat → Nat → Nat) (cI cJ : ClassId) (h hw : Nat) (sz : Nat) (pl : Int32) (wd : Int32) (va : Int32) (wl : Int32) (w : Nat → Int32) (hi : vp_in (f_FL_indexOf pl wd) 70) : Met l y_FL_write ws_FL_write ({ frames := 1, cells := 0, slots := 0, locals := 21 } : Room) (va_Pc [.ref h, .int pl, .int wd, .int va] (bc_pre (dC, dI) cI cJ [(h, .inr (1, [.ref hw, .int wl])), (hw, .inl (cI, 70, .inl w))] sz)) (va_Qi (fun (r : Int32) (_ : Unit) => r = (f_FL_write pl wd va wl w).1) (fun _ => bc_post (dC, dI) cI cJ (va_A [(h, .inr (1, [.ref hw, .int wl])), (hw, .inl (cI, 70, .inl w))] sz) [(h, .inr (1, [.ref hw, .int (f_FL_write pl wd va wl w).2.1])), (hw, .inl (cI, 70, .inl (f_FL_write pl wd va wl w).2.2))]) (va_A [(h, .inr (1, [.ref hw, .int wl])), (hw, .inl (cI, 70, .inl w))] sz)) 0 0 (va_A [(h, .inr (1, [.ref hw, .int wl])), (hw, .inl (cI, 70, .inl w))] sz) := by
  refine Met.ofW (cc := prog_3_method_7_code) (maxL := 4) (ret := (some .boolean)) (by decide) rfl ?_
  intro p e s m args below meth c s₁ B hml hv
  obtain ⟨rfl, hsz, hP, hK, hD0, hE⟩ := hv
  have hx := B.exec
  have hb := B.bytes
  have hr := B.returns
  have hts : ∀ w ∈ bc_G, w.before ([.ref h, .int pl, .int wd, .int va] : List Value).toArray s = true := fun w h => atoms_spec (ws := ws_FL_write) B.pre w (List.mem_cons_of_mem _ h)
  have hown : s.vm.findClass "BootChain$Flash" = some m.cls := findClass_of_methodNamed B.named
  have hlocks := B.notSynchronized
  subst hsz
  have hD := hD0.self (sz := s.heap.size)
  generalize hAe : va_A [(h, .inr (1, [.ref hw, .int wl])), (hw, .inl (cI, 70, .inl w))] s.heap.size = A at hD hE ⊢
  have hA : ∀ q : Nat, s.heap.size ≤ q → A q := fun q h => by rw [← hAe]; exact Or.inr h
  have hS : va_S A s.heap s.heap [] := va_S.rf
  have jn_27 : ∀ (y0_1 : Int32) (y1 : Nat → Int32) (H : Heap) (locs : List Loc) (ls : Array Slot), lv_has ls 4 [(0, .ref h), (1, .int pl), (2, .int wd), (3, .int va)] → va_P (dC, dI) classes [(h, .inr (1, [.ref hw, .int y0_1])), (hw, .inl (cI, 70, .inl y1))] H → va_D A [(h, .inr (1, [.ref hw, .int y0_1])), (hw, .inl (cI, 70, .inl y1))] → va_S A s.heap H locs → W p l e (headSpec ws_FL_write ({ frames := 1, cells := 0, slots := 0, locals := 21 } : Room)).room s m ([.ref h, .int pl, .int wd, .int va] : List Value).toArray below meth c H locs 0 0 (MQ below (va_Qi (fun (r : Int32) (_ : Unit) => r = (f_FL_write_j27 pl wd va wl w y0_1 y1).1) (fun _ => bc_post (dC, dI) cI cJ A [(h, .inr (1, [.ref hw, .int (f_FL_write_j27 pl wd va wl w y0_1 y1).2.1])), (hw, .inl (cI, 70, .inl (f_FL_write_j27 pl wd va wl w y0_1 y1).2.2))]) A) ([.ref h, .int pl, .int wd, .int va] : List Value).toArray s 0 0 A) (F0 m 27 ls []) := by
    intro y0_1 y1 H locs ls hl hP hD hS
    refine lv_aload_n hx hb d_FL_write_27 rfl (lv_at hl 0 rfl) ?_
    refine va_get (D := (dC, dI)) (ci := 1) (v := .ref hw) (C := R_FL) (T := F_FL) (N := 2) hx hb hts in_FL hown hK hP 0 rfl rfl 0 (by decide) (hts _ gw_27) (fun _ h9 => h9) rfl d_FL_write_28 ?_
    refine lv_iload_n hx hb d_FL_write_31 rfl (lv_at hl 1 rfl) ?_
    refine lv_iload_n hx hb d_FL_write_32 rfl (lv_at hl 2 rfl) ?_
    have hPc := hP.sub (ws' := []) [] rfl
    have hDc := hD.sub (ws' := []) [] (by decide) rfl
    have hFc := va_free (wc := []) hD hS hA [] rfl
    refine va_calli (va_runS (As := [.int pl, .int wd]) (rest := [.ref hw]) ⟨hx, hb, hml, hown, hts⟩ (c_FL_indexOf l dC dI cI cJ _ pl wd) ⟨callB_of 2 hts (bc_good gw_102) rfl rfl rfl (hts _ gw_2) (hts _ gw_100) (by decide +kernel) ⟨Nat.le_of_ble_eq_true rfl, Nat.le_of_ble_eq_true rfl⟩, (hts _ gw_101)⟩ ⟨bc_blind, fun U hU hW => ⟨rfl, bc_give hPc hDc hK hE hS hFc U hU hW⟩⟩ rfl rfl hl.1 rfl (lv_room (Nat.le_of_ble_eq_true rfl)) d_FL_write_33 ⟨Nat.le_of_ble_eq_true rfl, Nat.le_of_ble_eq_true rfl⟩) hS (fun q _ h => hFc q h) hFc (fun r u t H9 locs ht hvm hp hB hz1 hk1 hS => ?_)
    subst hp
    obtain ⟨hP, hD⟩ := va_join (wr := [(h, .inr (1, [.ref hw, .int y0_1])), (hw, .inl (cI, 70, .inl y1))]) (w1 := []) hP hD [] [0, 1] rfl rfl (by decide) (by decide) hk1 hFc (ht ▸ hB.1) hB.2.2
    have hP := hP.sub (ws' := [(h, .inr (1, [.ref hw, .int y0_1])), (hw, .inl (cI, 70, .inl y1))]) [0, 1] rfl
    have hD := hD.sub (ws' := [(h, .inr (1, [.ref hw, .int y0_1])), (hw, .inl (cI, 70, .inl y1))]) [0, 1] (by decide) rfl
    generalize H9 = H at hP hS ⊢
    refine lv_iload_n hx hb d_FL_write_36 rfl (lv_at hl 3 rfl) ?_
    refine va_iast hx hb hK hP hD hS 1 0 rfl rfl (hi) d_FL_write_37 (fun H locs hP hD hS => ?_)
    have hP : va_P (dC, dI) classes [(h, .inr (1, [.ref hw, .int y0_1])), (hw, .inl (cI, 70, .inl (upd y1 ((f_FL_indexOf pl wd)).toNatClampNeg va)))] H := hP
    have hD : va_D A [(h, .inr (1, [.ref hw, .int y0_1])), (hw, .inl (cI, 70, .inl (upd y1 ((f_FL_indexOf pl wd)).toNatClampNeg va)))] := hD
    refine lv_iconst (v := 1) hx hb d_FL_write_38 (by decide) ?_
    have e0 : (f_FL_write_j27 pl wd va wl w y0_1 y1) = ((1 : Int32), y0_1, (upd y1 ((f_FL_indexOf pl wd)).toNatClampNeg va)) := by rw [f_FL_write_j27]
    rw [e0]
    exact W.zret (v := (1 : Int32)) (ty := .boolean) hx hb hr (rfl) (fun t ht hW => ⟨⟨(1 : Int32), (), rfl, rfl, by rw [ht]; exact hP, va_K.moved hW.alike hK, hD⟩, hS.F ht⟩) hS.2.2 d_FL_write_39
  have hl := lv_entry ([.ref h, .int pl, .int wd, .int va]) (n := 4) (Nat.le_of_ble_eq_true rfl)
  rw [lg_entry_eq]
  generalize (lg_sl ([.ref h, .int pl, .int wd, .int va]) ++ List.replicate (4 - (lg_sl ([.ref h, .int pl, .int wd, .int va])).length) Slot.unset).toArray = ls at hl ⊢
  have hl : lv_has ls 4 [(0, .ref h), (1, .int pl), (2, .int wd), (3, .int va)] := hl
  refine lv_aload_n hx hb d_FL_write_0 rfl (lv_at hl 0 rfl) ?_
  refine va_get (D := (dC, dI)) (ci := 1) (v := .int wl) (C := R_FL) (T := F_FL) (N := 2) hx hb hts in_FL hown hK hP 0 rfl rfl 1 (by decide) (hts _ gw_28) (fun _ h9 => h9) rfl d_FL_write_1 ?_
  refine lv_if_ne (tgt := 9) hx hb d_FL_write_4 (by decide) (fun h3 => ?_) (fun h3 => ?_)
  · refine lv_aload_n hx hb d_FL_write_9 rfl (lv_at hl 0 rfl) ?_
    refine va_get (D := (dC, dI)) (ci := 1) (v := .int wl) (C := R_FL) (T := F_FL) (N := 2) hx hb hts in_FL hown hK hP 0 rfl rfl 1 (by decide) (hts _ gw_28) (fun _ h9 => h9) rfl d_FL_write_10 ?_
    refine lv_iconst (v := (-1)) hx hb d_FL_write_13 (by decide) ?_
    refine lv_icmp_eq (tgt := 27) hx hb d_FL_write_14 (by decide) (fun h4 => ?_) (fun h4 => ?_)
    · have e0 : (f_FL_write pl wd va wl w) = f_FL_write_j27 pl wd va wl w wl w := by rw [f_FL_write, if_neg h3, if_pos h4]
      rw [e0]
      exact jn_27 wl w _ _ ls (lv_sub hl [0, 1, 2, 3] rfl) hP hD hS
    · refine lv_aload_n hx hb d_FL_write_17 rfl (lv_at hl 0 rfl) ?_
      refine lv_dup hx hb d_FL_write_18 rfl ?_
      refine va_get (D := (dC, dI)) (ci := 1) (v := .int wl) (C := R_FL) (T := F_FL) (N := 2) hx hb hts in_FL hown hK hP 0 rfl rfl 1 (by decide) (hts _ gw_28) (fun _ h9 => h9) rfl d_FL_write_19 ?_
      refine lv_iconst (v := 1) hx hb d_FL_write_22 (by decide) ?_
      refine lv_isub hx hb d_FL_write_23 ?_
      refine va_put (D := (dC, dI)) (ci := 1) (v := .int (wl - (1 : Int32))) (ty := .int) (C := R_FL) (T := F_FL) (N := 2) hx hb hts in_FL t_FL t_FL_ok n_FL hown hK hP hD hS 0 rfl rfl 1 (by decide) (hts _ gw_28) (fun _ h9 => h9) rfl (by decide +kernel) rfl rfl (Nat.le_of_ble_eq_true rfl) d_FL_write_24 (fun H locs hP hD hS => ?_)
      have hP : va_P (dC, dI) classes [(h, .inr (1, [.ref hw, .int (wl - (1 : Int32))])), (hw, .inl (cI, 70, .inl w))] H := hP
      have hD : va_D A [(h, .inr (1, [.ref hw, .int (wl - (1 : Int32))])), (hw, .inl (cI, 70, .inl w))] := hD
      have e0 : (f_FL_write pl wd va wl w) = f_FL_write_j27 pl wd va wl w (wl - (1 : Int32)) w := by rw [f_FL_write, if_neg h3, if_neg h4]
      rw [e0]
      exact jn_27 (wl - (1 : Int32)) w _ _ ls (lv_sub hl [0, 1, 2, 3] rfl) hP hD hS
  · refine lv_iconst (v := 0) hx hb d_FL_write_7 (by decide) ?_
    have e0 : (f_FL_write pl wd va wl w) = ((0 : Int32), wl, w) := by rw [f_FL_write, if_pos h3]
    rw [e0]
    exact W.zret (v := (0 : Int32)) (ty := .boolean) hx hb hr (rfl) (fun t ht hW => ⟨⟨(0 : Int32), (), rfl, rfl, by rw [ht]; exact hP, va_K.moved hW.alike hK, hD⟩, hS.F ht⟩) hS.2.2 d_FL_write_8
