theorem sl_active {st sg : Int32} (h : sg = 0 ∨ sg = 1) : 0 ≤ f_SB_activeSlot st sg ∧ f_SB_activeSlot st sg < 4 := by
  unfold f_SB_activeSlot
  obtain ⟨j, hj, he⟩ := pk_andE (ju st ((4 : Int32) * sg)) 1 (m := 1) (by decide)
  rw [he]
  rcases h with rfl | rfl
  · rw [show (2 : Int32) * 0 = nI 0 from rfl, nI_add, show (4 : Int32) = nI 4 from rfl]
    exact ⟨nI_pos' (by omega), (nI_ltI (by omega) (by decide)).mpr (by omega)⟩
  · rw [show (2 : Int32) * 1 = nI 2 from rfl, nI_add, show (4 : Int32) = nI 4 from rfl]
    exact ⟨nI_pos' (by omega), (nI_ltI (by omega) (by decide)).mpr (by omega)⟩
theorem sl_cases {x : Int32} (h : 0 ≤ x ∧ x < 4) : x = 0 ∨ x = 1 ∨ x = 2 ∨ x = 3 := by
  obtain ⟨a, ha, rfl⟩ := nI_of (Int32.not_lt.mpr h.1)
  have h2 := h.2
  rw [show (4 : Int32) = nI 4 from rfl, nI_ltI ha (by decide)] at h2
  have h3 : a = 0 ∨ a = 1 ∨ a = 2 ∨ a = 3 := by omega
  rcases h3 with rfl | rfl | rfl | rfl
  · exact Or.inl rfl
  · exact Or.inr (Or.inl rfl)
  · exact Or.inr (Or.inr (Or.inl rfl))
  · exact Or.inr (Or.inr (Or.inr rfl))
theorem sl_other {st sg : Int32} (h : sg = 0 ∨ sg = 1) : 0 ≤ f_SB_otherSlot st sg ∧ f_SB_otherSlot st sg < 4 := by
  unfold f_SB_otherSlot
  rcases sl_cases (sl_active (st := st) h) with e | e | e | e <;> rw [e] <;> decide
theorem ix_st {sg : Int32} (h : sg = 0 ∨ sg = 1) : vp_in sg 2 := by
  rcases h with rfl | rfl <;> (unfold vp_in; decide +kernel)
theorem ro_reg {sg : Int32} (h : sg = 0 ∨ sg = 1) : ∀ x : Int32, 0 ≤ x → ¬ 8 ≤ x → vp_in (8 * sg + x) 16 := by
  intro x h0 h1
  rcases h with rfl | rfl
  · exact ix_off 0 16 8 h0 h1 rfl (by decide) (by decide)
  · exact ix_off 8 16 8 h0 h1 rfl (by decide) (by decide)
theorem ix_run {ru : Nat → Int32} {x : Int32} (h : (0 ≤ ru 0 ∧ ru 0 < 4) ∧ (0 ≤ ru 1 ∧ ru 1 < 4)) (h0 : 0 ≤ x) (h1 : ¬ 2 ≤ x) : vp_in (f_FL_indexOf (ru x.toNatClampNeg) 0) 70 := by
  obtain ⟨a, ha, rfl⟩ := nI_of (Int32.not_lt.mpr h0)
  rw [show (2 : Int32) = nI 2 from rfl, nI_leI (by decide) ha] at h1
  rw [nI_clamp ha]
  have h3 : a = 0 ∨ a = 1 := by omega
  rcases h3 with rfl | rfl
  · exact ix_slot h.1 (by decide) (by decide)
  · exact ix_slot h.2 (by decide) (by decide)
theorem st_loop {x : Int32} (h0 : 0 ≤ x) (h1 : ¬ 2 ≤ x) : x = 0 ∨ x = 1 := by
  obtain ⟨a, ha, rfl⟩ := nI_of (Int32.not_lt.mpr h0)
  rw [show (2 : Int32) = nI 2 from rfl, nI_leI (by decide) ha] at h1
  have h3 : a = 0 ∨ a = 1 := by omega
  rcases h3 with rfl | rfl
  · exact Or.inl rfl
  · exact Or.inr rfl

-- BC_isStage
theorem d_BC_isStage_0 : decode prog_1_method_15_code 0 = .ok (.iload_n 0, 1) := by decide +kernel
theorem d_BC_isStage_1 : decode prog_1_method_15_code 1 = .ok (.ifCond .lt 12, 3) := by decide +kernel
theorem d_BC_isStage_4 : decode prog_1_method_15_code 4 = .ok (.iload_n 0, 1) := by decide +kernel
theorem d_BC_isStage_5 : decode prog_1_method_15_code 5 = .ok (.iconst 2, 1) := by decide +kernel
theorem d_BC_isStage_6 : decode prog_1_method_15_code 6 = .ok (.if_icmp .ge 7, 3) := by decide +kernel
theorem d_BC_isStage_9 : decode prog_1_method_15_code 9 = .ok (.iconst 1, 1) := by decide +kernel
theorem d_BC_isStage_10 : decode prog_1_method_15_code 10 = .ok (.goto 4, 3) := by decide +kernel
theorem d_BC_isStage_13 : decode prog_1_method_15_code 13 = .ok (.iconst 0, 1) := by decide +kernel
theorem d_BC_isStage_14 : decode prog_1_method_15_code 14 = .ok (.ireturn, 1) := by decide +kernel
def y_BC_isStage : MethodName := ⟨"BootChain", "isStage", "(I)Z"⟩
def ws_BC_isStage : List Cond := .code y_BC_isStage prog_1_method_15_code 1 (some .boolean) :: bc_G
def f_BC_isStage (sg : Int32) : Int32 := if sg < 0 then (0 : Int32) else if (2 : Int32) ≤ sg then (0 : Int32) else (1 : Int32)
set_option maxHeartbeats 4000000 in
set_option maxRecDepth 100000 in
theorem c_BC_isStage (l : Launch) (dC : Nat → ClassId) (dI : Nat → Nat → Nat) (cI cJ : ClassId) (sz : Nat) (sg : Int32) : Met l y_BC_isStage ws_BC_isStage ({ frames := 0, cells := 0, slots := 0, locals := 0 } : Room) (va_Pc [.int sg] (bc_pre (dC, dI) cI cJ [] sz)) (va_Qi (fun (r : Int32) (_ : Unit) => r = (f_BC_isStage sg)) (fun _ => bc_post (dC, dI) cI cJ (va_A [] sz) []) (va_A [] sz)) 0 0 (va_A [] sz) := by
  refine Met.ofW (cc := prog_1_method_15_code) (maxL := 1) (ret := (some .boolean)) (by decide) rfl ?_
  intro p e s m args below meth c s₁ B hml hv
  obtain ⟨rfl, hsz, hP, hK, hD0, hE⟩ := hv
  have hx := B.exec
  have hb := B.bytes
  have hr := B.returns
  have hts : ∀ w ∈ bc_G, w.before ([.int sg] : List Value).toArray s = true := fun w h => atoms_spec (ws := ws_BC_isStage) B.pre w (List.mem_cons_of_mem _ h)
  have hown : s.vm.findClass "BootChain" = some m.cls := findClass_of_methodNamed B.named
  have hlocks := B.notSynchronized
  subst hsz
  have hD := hD0.self (sz := s.heap.size)
  generalize hAe : va_A [] s.heap.size = A at hD hE ⊢
  have hA : ∀ q : Nat, s.heap.size ≤ q → A q := fun q h => by rw [← hAe]; exact Or.inr h
  have hS : va_S A s.heap s.heap [] := va_S.rf
  have hl := lv_entry ([.int sg]) (n := 1) (Nat.le_of_ble_eq_true rfl)
  rw [lg_entry_eq]
  generalize (lg_sl ([.int sg]) ++ List.replicate (1 - (lg_sl ([.int sg])).length) Slot.unset).toArray = ls at hl ⊢
  have hl : lv_has ls 1 [(0, .int sg)] := hl
  refine lv_iload_n hx hb d_BC_isStage_0 rfl (lv_at hl 0 rfl) ?_
  refine lv_if_lt (tgt := 13) hx hb d_BC_isStage_1 (by decide) (fun h3 => ?_) (fun h3 => ?_)
  · refine lv_iconst (v := 0) hx hb d_BC_isStage_13 (by decide) ?_
    have e0 : (f_BC_isStage sg) = (0 : Int32) := by rw [f_BC_isStage, if_pos h3]
    rw [e0]
    exact W.zret (v := (0 : Int32)) (ty := .boolean) hx hb hr (rfl) (fun t ht hW => ⟨⟨(0 : Int32), (), rfl, rfl, by rw [ht]; exact hP, va_K.moved hW.alike hK, hD⟩, hS.F ht⟩) hS.2.2 d_BC_isStage_14
  · refine lv_iload_n hx hb d_BC_isStage_4 rfl (lv_at hl 0 rfl) ?_
    refine lv_iconst (v := 2) hx hb d_BC_isStage_5 (by decide) ?_
    refine lv_icmp_ge (tgt := 13) hx hb d_BC_isStage_6 (by decide) (fun h4 => ?_) (fun h4 => ?_)
    · refine lv_iconst (v := 0) hx hb d_BC_isStage_13 (by decide) ?_
      have e0 : (f_BC_isStage sg) = (0 : Int32) := by rw [f_BC_isStage, if_neg h3, if_pos h4]
      rw [e0]
      exact W.zret (v := (0 : Int32)) (ty := .boolean) hx hb hr (rfl) (fun t ht hW => ⟨⟨(0 : Int32), (), rfl, rfl, by rw [ht]; exact hP, va_K.moved hW.alike hK, hD⟩, hS.F ht⟩) hS.2.2 d_BC_isStage_14
    · refine lv_iconst (v := 1) hx hb d_BC_isStage_9 (by decide) ?_
      refine lv_goto (tgt := 14) hx hb d_BC_isStage_10 (by decide) ?_
      have e0 : (f_BC_isStage sg) = (1 : Int32) := by rw [f_BC_isStage, if_neg h3, if_neg h4]
      rw [e0]
      exact W.zret (v := (1 : Int32)) (ty := .boolean) hx hb hr (rfl) (fun t ht hW => ⟨⟨(1 : Int32), (), rfl, rfl, by rw [ht]; exact hP, va_K.moved hW.alike hK, hD⟩, hS.F ht⟩) hS.2.2 d_BC_isStage_14
-- BC_isHashWord
theorem d_BC_isHashWord_0 : decode prog_1_method_16_code 0 = .ok (.iload_n 0, 1) := by decide +kernel
theorem d_BC_isHashWord_1 : decode prog_1_method_16_code 1 = .ok (.ifCond .lt 13, 3) := by decide +kernel
theorem d_BC_isHashWord_4 : decode prog_1_method_16_code 4 = .ok (.iload_n 0, 1) := by decide +kernel
theorem d_BC_isHashWord_5 : decode prog_1_method_16_code 5 = .ok (.bipush 8, 2) := by decide +kernel
theorem d_BC_isHashWord_7 : decode prog_1_method_16_code 7 = .ok (.if_icmp .ge 7, 3) := by decide +kernel
theorem d_BC_isHashWord_10 : decode prog_1_method_16_code 10 = .ok (.iconst 1, 1) := by decide +kernel
theorem d_BC_isHashWord_11 : decode prog_1_method_16_code 11 = .ok (.goto 4, 3) := by decide +kernel
theorem d_BC_isHashWord_14 : decode prog_1_method_16_code 14 = .ok (.iconst 0, 1) := by decide +kernel
theorem d_BC_isHashWord_15 : decode prog_1_method_16_code 15 = .ok (.ireturn, 1) := by decide +kernel
def y_BC_isHashWord : MethodName := ⟨"BootChain", "isHashWord", "(I)Z"⟩
def ws_BC_isHashWord : List Cond := .code y_BC_isHashWord prog_1_method_16_code 1 (some .boolean) :: bc_G
def f_BC_isHashWord (wd : Int32) : Int32 := if wd < 0 then (0 : Int32) else if (8 : Int32) ≤ wd then (0 : Int32) else (1 : Int32)
set_option maxHeartbeats 4000000 in
set_option maxRecDepth 100000 in
theorem c_BC_isHashWord (l : Launch) (dC : Nat → ClassId) (dI : Nat → Nat → Nat) (cI cJ : ClassId) (sz : Nat) (wd : Int32) : Met l y_BC_isHashWord ws_BC_isHashWord ({ frames := 0, cells := 0, slots := 0, locals := 0 } : Room) (va_Pc [.int wd] (bc_pre (dC, dI) cI cJ [] sz)) (va_Qi (fun (r : Int32) (_ : Unit) => r = (f_BC_isHashWord wd)) (fun _ => bc_post (dC, dI) cI cJ (va_A [] sz) []) (va_A [] sz)) 0 0 (va_A [] sz) := by
  refine Met.ofW (cc := prog_1_method_16_code) (maxL := 1) (ret := (some .boolean)) (by decide) rfl ?_
  intro p e s m args below meth c s₁ B hml hv
  obtain ⟨rfl, hsz, hP, hK, hD0, hE⟩ := hv
  have hx := B.exec
  have hb := B.bytes
  have hr := B.returns
  have hts : ∀ w ∈ bc_G, w.before ([.int wd] : List Value).toArray s = true := fun w h => atoms_spec (ws := ws_BC_isHashWord) B.pre w (List.mem_cons_of_mem _ h)
  have hown : s.vm.findClass "BootChain" = some m.cls := findClass_of_methodNamed B.named
  have hlocks := B.notSynchronized
  subst hsz
  have hD := hD0.self (sz := s.heap.size)
  generalize hAe : va_A [] s.heap.size = A at hD hE ⊢
  have hA : ∀ q : Nat, s.heap.size ≤ q → A q := fun q h => by rw [← hAe]; exact Or.inr h
  have hS : va_S A s.heap s.heap [] := va_S.rf
  have hl := lv_entry ([.int wd]) (n := 1) (Nat.le_of_ble_eq_true rfl)
  rw [lg_entry_eq]
  generalize (lg_sl ([.int wd]) ++ List.replicate (1 - (lg_sl ([.int wd])).length) Slot.unset).toArray = ls at hl ⊢
  have hl : lv_has ls 1 [(0, .int wd)] := hl
  refine lv_iload_n hx hb d_BC_isHashWord_0 rfl (lv_at hl 0 rfl) ?_
  refine lv_if_lt (tgt := 14) hx hb d_BC_isHashWord_1 (by decide) (fun h3 => ?_) (fun h3 => ?_)
  · refine lv_iconst (v := 0) hx hb d_BC_isHashWord_14 (by decide) ?_
    have e0 : (f_BC_isHashWord wd) = (0 : Int32) := by rw [f_BC_isHashWord, if_pos h3]
    rw [e0]
    exact W.zret (v := (0 : Int32)) (ty := .boolean) hx hb hr (rfl) (fun t ht hW => ⟨⟨(0 : Int32), (), rfl, rfl, by rw [ht]; exact hP, va_K.moved hW.alike hK, hD⟩, hS.F ht⟩) hS.2.2 d_BC_isHashWord_15
  · refine lv_iload_n hx hb d_BC_isHashWord_4 rfl (lv_at hl 0 rfl) ?_
    refine lv_bipush (v := 8) hx hb d_BC_isHashWord_5 (by decide) ?_
    refine lv_icmp_ge (tgt := 14) hx hb d_BC_isHashWord_7 (by decide) (fun h4 => ?_) (fun h4 => ?_)
    · refine lv_iconst (v := 0) hx hb d_BC_isHashWord_14 (by decide) ?_
      have e0 : (f_BC_isHashWord wd) = (0 : Int32) := by rw [f_BC_isHashWord, if_neg h3, if_pos h4]
      rw [e0]
      exact W.zret (v := (0 : Int32)) (ty := .boolean) hx hb hr (rfl) (fun t ht hW => ⟨⟨(0 : Int32), (), rfl, rfl, by rw [ht]; exact hP, va_K.moved hW.alike hK, hD⟩, hS.F ht⟩) hS.2.2 d_BC_isHashWord_15
    · refine lv_iconst (v := 1) hx hb d_BC_isHashWord_10 (by decide) ?_
      refine lv_goto (tgt := 15) hx hb d_BC_isHashWord_11 (by decide) ?_
      have e0 : (f_BC_isHashWord wd) = (1 : Int32) := by rw [f_BC_isHashWord, if_neg h3, if_neg h4]
      rw [e0]
      exact W.zret (v := (1 : Int32)) (ty := .boolean) hx hb hr (rfl) (fun t ht hW => ⟨⟨(1 : Int32), (), rfl, rfl, by rw [ht]; exact hP, va_K.moved hW.alike hK, hD⟩, hS.F ht⟩) hS.2.2 d_BC_isHashWord_15
-- BC_bothStagesRun
theorem d_BC_bothStagesRun_0 : decode prog_1_method_17_code 0 = .ok (.aload_n 0, 1) := by decide +kernel
theorem d_BC_bothStagesRun_1 : decode prog_1_method_17_code 1 = .ok (.getfield 37, 3) := by decide +kernel
theorem d_BC_bothStagesRun_4 : decode prog_1_method_17_code 4 = .ok (.iconst 0, 1) := by decide +kernel
theorem d_BC_bothStagesRun_5 : decode prog_1_method_17_code 5 = .ok (.iaload, 1) := by decide +kernel
theorem d_BC_bothStagesRun_6 : decode prog_1_method_17_code 6 = .ok (.iconst (-1), 1) := by decide +kernel
theorem d_BC_bothStagesRun_7 : decode prog_1_method_17_code 7 = .ok (.if_icmp .eq 17, 3) := by decide +kernel
theorem d_BC_bothStagesRun_10 : decode prog_1_method_17_code 10 = .ok (.aload_n 0, 1) := by decide +kernel
theorem d_BC_bothStagesRun_11 : decode prog_1_method_17_code 11 = .ok (.getfield 37, 3) := by decide +kernel
theorem d_BC_bothStagesRun_14 : decode prog_1_method_17_code 14 = .ok (.iconst 1, 1) := by decide +kernel
theorem d_BC_bothStagesRun_15 : decode prog_1_method_17_code 15 = .ok (.iaload, 1) := by decide +kernel
theorem d_BC_bothStagesRun_16 : decode prog_1_method_17_code 16 = .ok (.iconst (-1), 1) := by decide +kernel
theorem d_BC_bothStagesRun_17 : decode prog_1_method_17_code 17 = .ok (.if_icmp .eq 7, 3) := by decide +kernel
theorem d_BC_bothStagesRun_20 : decode prog_1_method_17_code 20 = .ok (.iconst 1, 1) := by decide +kernel
theorem d_BC_bothStagesRun_21 : decode prog_1_method_17_code 21 = .ok (.goto 4, 3) := by decide +kernel
theorem d_BC_bothStagesRun_24 : decode prog_1_method_17_code 24 = .ok (.iconst 0, 1) := by decide +kernel
theorem d_BC_bothStagesRun_25 : decode prog_1_method_17_code 25 = .ok (.ireturn, 1) := by decide +kernel
def y_BC_bothStagesRun : MethodName := ⟨"BootChain", "bothStagesRun", "()Z"⟩
def ws_BC_bothStagesRun : List Cond := .code y_BC_bothStagesRun prog_1_method_17_code 1 (some .boolean) :: bc_G
def f_BC_bothStagesRun (ru : Nat → Int32) : Int32 := if (ru ((0 : Int32)).toNatClampNeg) = (-1 : Int32) then (0 : Int32) else if (ru ((1 : Int32)).toNatClampNeg) = (-1 : Int32) then (0 : Int32) else (1 : Int32)
set_option maxHeartbeats 4000000 in
set_option maxRecDepth 100000 in
theorem c_BC_bothStagesRun (l : Launch) (dC : Nat → ClassId) (dI : Nat → Nat → Nat) (cI cJ : ClassId) (h qf qd qi qs qr qc qg qh : Nat) (sz : Nat) (ru : Nat → Int32) : Met l y_BC_bothStagesRun ws_BC_bothStagesRun ({ frames := 0, cells := 0, slots := 0, locals := 0 } : Room) (va_Pc [.ref h] (bc_pre (dC, dI) cI cJ [(h, .inr (0, [.ref qf, .ref qd, .ref qi, .ref qs, .ref qr, .ref qc, .ref qg, .ref qh])), (qr, .inl (cI, 2, .inl ru))] sz)) (va_Qi (fun (r : Int32) (_ : Unit) => r = (f_BC_bothStagesRun ru)) (fun _ => bc_post (dC, dI) cI cJ (va_A [(h, .inr (0, [.ref qf, .ref qd, .ref qi, .ref qs, .ref qr, .ref qc, .ref qg, .ref qh])), (qr, .inl (cI, 2, .inl ru))] sz) [(h, .inr (0, [.ref qf, .ref qd, .ref qi, .ref qs, .ref qr, .ref qc, .ref qg, .ref qh])), (qr, .inl (cI, 2, .inl ru))]) (va_A [(h, .inr (0, [.ref qf, .ref qd, .ref qi, .ref qs, .ref qr, .ref qc, .ref qg, .ref qh])), (qr, .inl (cI, 2, .inl ru))] sz)) 0 0 (va_A [(h, .inr (0, [.ref qf, .ref qd, .ref qi, .ref qs, .ref qr, .ref qc, .ref qg, .ref qh])), (qr, .inl (cI, 2, .inl ru))] sz) := by
  refine Met.ofW (cc := prog_1_method_17_code) (maxL := 1) (ret := (some .boolean)) (by decide) rfl ?_
  intro p e s m args below meth c s₁ B hml hv
  obtain ⟨rfl, hsz, hP, hK, hD0, hE⟩ := hv
  have hx := B.exec
  have hb := B.bytes
  have hr := B.returns
  have hts : ∀ w ∈ bc_G, w.before ([.ref h] : List Value).toArray s = true := fun w h => atoms_spec (ws := ws_BC_bothStagesRun) B.pre w (List.mem_cons_of_mem _ h)
  have hown : s.vm.findClass "BootChain" = some m.cls := findClass_of_methodNamed B.named
  have hlocks := B.notSynchronized
  subst hsz
  have hD := hD0.self (sz := s.heap.size)
  generalize hAe : va_A [(h, .inr (0, [.ref qf, .ref qd, .ref qi, .ref qs, .ref qr, .ref qc, .ref qg, .ref qh])), (qr, .inl (cI, 2, .inl ru))] s.heap.size = A at hD hE ⊢
  have hA : ∀ q : Nat, s.heap.size ≤ q → A q := fun q h => by rw [← hAe]; exact Or.inr h
  have hS : va_S A s.heap s.heap [] := va_S.rf
  have hl := lv_entry ([.ref h]) (n := 1) (Nat.le_of_ble_eq_true rfl)
  rw [lg_entry_eq]
  generalize (lg_sl ([.ref h]) ++ List.replicate (1 - (lg_sl ([.ref h])).length) Slot.unset).toArray = ls at hl ⊢
  have hl : lv_has ls 1 [(0, .ref h)] := hl
  refine lv_aload_n hx hb d_BC_bothStagesRun_0 rfl (lv_at hl 0 rfl) ?_
  refine va_get (D := (dC, dI)) (ci := 0) (v := .ref qr) (C := R_BC) (T := F_BC) (N := 8) hx hb hts in_BC hown hK hP 0 rfl rfl 4 (by decide) (hts _ gw_69) (fun _ h9 => h9) rfl d_BC_bothStagesRun_1 ?_
  refine lv_iconst (v := 0) hx hb d_BC_bothStagesRun_4 (by decide) ?_
  refine va_iald hx hb hK hP 1 0 rfl rfl (by unfold vp_in; decide +kernel) d_BC_bothStagesRun_5 ?_
  refine lv_iconst (v := (-1)) hx hb d_BC_bothStagesRun_6 (by decide) ?_
  refine lv_icmp_eq (tgt := 24) hx hb d_BC_bothStagesRun_7 (by decide) (fun h3 => ?_) (fun h3 => ?_)
  · refine lv_iconst (v := 0) hx hb d_BC_bothStagesRun_24 (by decide) ?_
    have e0 : (f_BC_bothStagesRun ru) = (0 : Int32) := by rw [f_BC_bothStagesRun, if_pos h3]
    rw [e0]
    exact W.zret (v := (0 : Int32)) (ty := .boolean) hx hb hr (rfl) (fun t ht hW => ⟨⟨(0 : Int32), (), rfl, rfl, by rw [ht]; exact hP, va_K.moved hW.alike hK, hD⟩, hS.F ht⟩) hS.2.2 d_BC_bothStagesRun_25
  · refine lv_aload_n hx hb d_BC_bothStagesRun_10 rfl (lv_at hl 0 rfl) ?_
    refine va_get (D := (dC, dI)) (ci := 0) (v := .ref qr) (C := R_BC) (T := F_BC) (N := 8) hx hb hts in_BC hown hK hP 0 rfl rfl 4 (by decide) (hts _ gw_69) (fun _ h9 => h9) rfl d_BC_bothStagesRun_11 ?_
    refine lv_iconst (v := 1) hx hb d_BC_bothStagesRun_14 (by decide) ?_
    refine va_iald hx hb hK hP 1 0 rfl rfl (by unfold vp_in; decide +kernel) d_BC_bothStagesRun_15 ?_
    refine lv_iconst (v := (-1)) hx hb d_BC_bothStagesRun_16 (by decide) ?_
    refine lv_icmp_eq (tgt := 24) hx hb d_BC_bothStagesRun_17 (by decide) (fun h4 => ?_) (fun h4 => ?_)
    · refine lv_iconst (v := 0) hx hb d_BC_bothStagesRun_24 (by decide) ?_
      have e0 : (f_BC_bothStagesRun ru) = (0 : Int32) := by rw [f_BC_bothStagesRun, if_neg h3, if_pos h4]
      rw [e0]
      exact W.zret (v := (0 : Int32)) (ty := .boolean) hx hb hr (rfl) (fun t ht hW => ⟨⟨(0 : Int32), (), rfl, rfl, by rw [ht]; exact hP, va_K.moved hW.alike hK, hD⟩, hS.F ht⟩) hS.2.2 d_BC_bothStagesRun_25
    · refine lv_iconst (v := 1) hx hb d_BC_bothStagesRun_20 (by decide) ?_
      refine lv_goto (tgt := 25) hx hb d_BC_bothStagesRun_21 (by decide) ?_
      have e0 : (f_BC_bothStagesRun ru) = (1 : Int32) := by rw [f_BC_bothStagesRun, if_neg h3, if_neg h4]
      rw [e0]
      exact W.zret (v := (1 : Int32)) (ty := .boolean) hx hb hr (rfl) (fun t ht hW => ⟨⟨(1 : Int32), (), rfl, rfl, by rw [ht]; exact hP, va_K.moved hW.alike hK, hD⟩, hS.F ht⟩) hS.2.2 d_BC_bothStagesRun_25
-- BC_turnOff
theorem d_BC_turnOff_0 : decode prog_1_method_18_code 0 = .ok (.iconst 0, 1) := by decide +kernel
theorem d_BC_turnOff_1 : decode prog_1_method_18_code 1 = .ok (.istore_n 1, 1) := by decide +kernel
theorem d_BC_turnOff_2 : decode prog_1_method_18_code 2 = .ok (.iload_n 1, 1) := by decide +kernel
theorem d_BC_turnOff_3 : decode prog_1_method_18_code 3 = .ok (.iconst 2, 1) := by decide +kernel
theorem d_BC_turnOff_4 : decode prog_1_method_18_code 4 = .ok (.if_icmp .ge 16, 3) := by decide +kernel
theorem d_BC_turnOff_7 : decode prog_1_method_18_code 7 = .ok (.aload_n 0, 1) := by decide +kernel
theorem d_BC_turnOff_8 : decode prog_1_method_18_code 8 = .ok (.getfield 37, 3) := by decide +kernel
theorem d_BC_turnOff_11 : decode prog_1_method_18_code 11 = .ok (.iload_n 1, 1) := by decide +kernel
theorem d_BC_turnOff_12 : decode prog_1_method_18_code 12 = .ok (.iconst (-1), 1) := by decide +kernel
theorem d_BC_turnOff_13 : decode prog_1_method_18_code 13 = .ok (.iastore, 1) := by decide +kernel
theorem d_BC_turnOff_14 : decode prog_1_method_18_code 14 = .ok (.iinc 1 1, 3) := by decide +kernel
theorem d_BC_turnOff_17 : decode prog_1_method_18_code 17 = .ok (.goto (-15), 3) := by decide +kernel
theorem d_BC_turnOff_20 : decode prog_1_method_18_code 20 = .ok (.iconst 0, 1) := by decide +kernel
theorem d_BC_turnOff_21 : decode prog_1_method_18_code 21 = .ok (.istore_n 1, 1) := by decide +kernel
theorem d_BC_turnOff_22 : decode prog_1_method_18_code 22 = .ok (.iload_n 1, 1) := by decide +kernel
theorem d_BC_turnOff_23 : decode prog_1_method_18_code 23 = .ok (.bipush 16, 2) := by decide +kernel
theorem d_BC_turnOff_25 : decode prog_1_method_18_code 25 = .ok (.if_icmp .ge 16, 3) := by decide +kernel
theorem d_BC_turnOff_28 : decode prog_1_method_18_code 28 = .ok (.aload_n 0, 1) := by decide +kernel
theorem d_BC_turnOff_29 : decode prog_1_method_18_code 29 = .ok (.getfield 44, 3) := by decide +kernel
theorem d_BC_turnOff_32 : decode prog_1_method_18_code 32 = .ok (.iload_n 1, 1) := by decide +kernel
theorem d_BC_turnOff_33 : decode prog_1_method_18_code 33 = .ok (.iconst 0, 1) := by decide +kernel
theorem d_BC_turnOff_34 : decode prog_1_method_18_code 34 = .ok (.iastore, 1) := by decide +kernel
theorem d_BC_turnOff_35 : decode prog_1_method_18_code 35 = .ok (.iinc 1 1, 3) := by decide +kernel
theorem d_BC_turnOff_38 : decode prog_1_method_18_code 38 = .ok (.goto (-16), 3) := by decide +kernel
theorem d_BC_turnOff_41 : decode prog_1_method_18_code 41 = .ok (.return_, 1) := by decide +kernel
def y_BC_turnOff : MethodName := ⟨"BootChain", "turnOff", "()V"⟩
def ws_BC_turnOff : List Cond := .code y_BC_turnOff prog_1_method_18_code 2 none :: bc_G
def f_BC_turnOff_22 (ru : Nat → Int32) (rg : Nat → Int32) : Nat → Int32 → (Nat → Int32) → (Nat → Int32) → (Nat → Int32) × (Nat → Int32)
  | 0, x1, y1, y2 => (y1, y2)
  | n + 1, x1, y1, y2 => if (16 : Int32) ≤ x1 then (y1, y2) else f_BC_turnOff_22 ru rg n (x1 + (1 : Int32)) y1 (upd y2 (x1).toNatClampNeg (0 : Int32))
def f_BC_turnOff_2 (ru : Nat → Int32) (rg : Nat → Int32) : Nat → Int32 → (Nat → Int32) → (Nat → Int32) → (Nat → Int32) × (Nat → Int32)
  | 0, x1, y1, y2 => (y1, y2)
  | n + 1, x1, y1, y2 => if (2 : Int32) ≤ x1 then f_BC_turnOff_22 ru rg 17 (0 : Int32) y1 y2 else f_BC_turnOff_2 ru rg n (x1 + (1 : Int32)) (upd y1 (x1).toNatClampNeg (-1 : Int32)) y2
def f_BC_turnOff (ru : Nat → Int32) (rg : Nat → Int32) : (Nat → Int32) × (Nat → Int32) := f_BC_turnOff_2 ru rg 3 (0 : Int32) ru rg
set_option maxHeartbeats 4000000 in
set_option maxRecDepth 100000 in
theorem c_BC_turnOff (l : Launch) (dC : Nat → ClassId) (dI : Nat → Nat → Nat) (cI cJ : ClassId) (h qf qd qi qs qr qc qg qh : Nat) (sz : Nat) (ru : Nat → Int32) (rg : Nat → Int32) : Met l y_BC_turnOff ws_BC_turnOff ({ frames := 0, cells := 0, slots := 0, locals := 0 } : Room) (va_Pc [.ref h] (bc_pre (dC, dI) cI cJ [(h, .inr (0, [.ref qf, .ref qd, .ref qi, .ref qs, .ref qr, .ref qc, .ref qg, .ref qh])), (qr, .inl (cI, 2, .inl ru)), (qg, .inl (cI, 16, .inl rg))] sz)) (va_Qv (fun (_ : Unit) => True) (fun _ => bc_post (dC, dI) cI cJ (va_A [(h, .inr (0, [.ref qf, .ref qd, .ref qi, .ref qs, .ref qr, .ref qc, .ref qg, .ref qh])), (qr, .inl (cI, 2, .inl ru)), (qg, .inl (cI, 16, .inl rg))] sz) [(h, .inr (0, [.ref qf, .ref qd, .ref qi, .ref qs, .ref qr, .ref qc, .ref qg, .ref qh])), (qr, .inl (cI, 2, .inl (f_BC_turnOff ru rg).1)), (qg, .inl (cI, 16, .inl (f_BC_turnOff ru rg).2))]) (va_A [(h, .inr (0, [.ref qf, .ref qd, .ref qi, .ref qs, .ref qr, .ref qc, .ref qg, .ref qh])), (qr, .inl (cI, 2, .inl ru)), (qg, .inl (cI, 16, .inl rg))] sz)) 0 0 (va_A [(h, .inr (0, [.ref qf, .ref qd, .ref qi, .ref qs, .ref qr, .ref qc, .ref qg, .ref qh])), (qr, .inl (cI, 2, .inl ru)), (qg, .inl (cI, 16, .inl rg))] sz) := by
  refine Met.ofW (cc := prog_1_method_18_code) (maxL := 2) (ret := none) (by decide) rfl ?_
  intro p e s m args below meth c s₁ B hml hv
  obtain ⟨rfl, hsz, hP, hK, hD0, hE⟩ := hv
  have hx := B.exec
  have hb := B.bytes
  have hr := B.returns
  have hts : ∀ w ∈ bc_G, w.before ([.ref h] : List Value).toArray s = true := fun w h => atoms_spec (ws := ws_BC_turnOff) B.pre w (List.mem_cons_of_mem _ h)
  have hown : s.vm.findClass "BootChain" = some m.cls := findClass_of_methodNamed B.named
  have hlocks := B.notSynchronized
  subst hsz
  have hD := hD0.self (sz := s.heap.size)
  generalize hAe : va_A [(h, .inr (0, [.ref qf, .ref qd, .ref qi, .ref qs, .ref qr, .ref qc, .ref qg, .ref qh])), (qr, .inl (cI, 2, .inl ru)), (qg, .inl (cI, 16, .inl rg))] s.heap.size = A at hD hE ⊢
  have hA : ∀ q : Nat, s.heap.size ≤ q → A q := fun q h => by rw [← hAe]; exact Or.inr h
  have hS : va_S A s.heap s.heap [] := va_S.rf
  have lp_22 : ∀ (n : Nat) (x1 : Int32) (y1 : Nat → Int32) (y2 : Nat → Int32) (H : Heap) (locs : List Loc) (ls : Array Slot), 0 ≤ x1 ∧ x1 ≤ 16 → ((16 : Int32).toInt - x1.toInt).toNat < n → lv_has ls 2 [(0, .ref h), (1, .int x1)] → va_P (dC, dI) classes [(h, .inr (0, [.ref qf, .ref qd, .ref qi, .ref qs, .ref qr, .ref qc, .ref qg, .ref qh])), (qr, .inl (cI, 2, .inl y1)), (qg, .inl (cI, 16, .inl y2))] H → va_D A [(h, .inr (0, [.ref qf, .ref qd, .ref qi, .ref qs, .ref qr, .ref qc, .ref qg, .ref qh])), (qr, .inl (cI, 2, .inl y1)), (qg, .inl (cI, 16, .inl y2))] → va_S A s.heap H locs → W p l e (headSpec ws_BC_turnOff ({ frames := 0, cells := 0, slots := 0, locals := 0 } : Room)).room s m ([.ref h] : List Value).toArray below meth c H locs 0 0 (MQ below (va_Qv (fun (_ : Unit) => True) (fun _ => bc_post (dC, dI) cI cJ A [(h, .inr (0, [.ref qf, .ref qd, .ref qi, .ref qs, .ref qr, .ref qc, .ref qg, .ref qh])), (qr, .inl (cI, 2, .inl (f_BC_turnOff_22 ru rg n x1 y1 y2).1)), (qg, .inl (cI, 16, .inl (f_BC_turnOff_22 ru rg n x1 y1 y2).2))]) A) ([.ref h] : List Value).toArray s 0 0 A) (F0 m 22 ls []) := by
    intro n
    induction n with
    | zero => intro x1 y1 y2 H locs ls hI hm; exact absurd hm (Nat.not_lt_zero _)
    | succ n ih =>
      intro x1 y1 y2 H locs ls hI hm hl hP hD hS
      refine lv_iload_n hx hb d_BC_turnOff_22 rfl (lv_at hl 1 rfl) ?_
      refine lv_bipush (v := 16) hx hb d_BC_turnOff_23 (by decide) ?_
      refine lv_icmp_ge (tgt := 41) hx hb d_BC_turnOff_25 (by decide) (fun h4 => ?_) (fun h4 => ?_)
      · have e0 : (f_BC_turnOff_22 ru rg (n + 1) x1 y1 y2) = (y1, y2) := by rw [f_BC_turnOff_22, if_pos h4]
        rw [e0]
        exact W.vret hx hb hr (fun t ht hW => ⟨⟨(), rfl, trivial, by rw [ht]; exact hP, va_K.moved hW.alike hK, hD⟩, hS.F ht⟩) hS.2.2 d_BC_turnOff_41
      · refine lv_aload_n hx hb d_BC_turnOff_28 rfl (lv_at hl 0 rfl) ?_
        refine va_get (D := (dC, dI)) (ci := 0) (v := .ref qg) (C := R_BC) (T := F_BC) (N := 8) hx hb hts in_BC hown hK hP 0 rfl rfl 6 (by decide) (hts _ gw_71) (fun _ h9 => h9) rfl d_BC_turnOff_29 ?_
        refine lv_iload_n hx hb d_BC_turnOff_32 rfl (lv_at hl 1 rfl) ?_
        refine lv_iconst (v := 0) hx hb d_BC_turnOff_33 (by decide) ?_
        refine va_iast hx hb hK hP hD hS 2 0 rfl rfl (by first | exact ix_sub 2 2 hI.1 (by assumption) rfl (by decide) (by decide) | exact ix_sub 16 16 hI.1 (by assumption) rfl (by decide) (by decide)) d_BC_turnOff_34 (fun H locs hP hD hS => ?_)
        have hP : va_P (dC, dI) classes [(h, .inr (0, [.ref qf, .ref qd, .ref qi, .ref qs, .ref qr, .ref qc, .ref qg, .ref qh])), (qr, .inl (cI, 2, .inl y1)), (qg, .inl (cI, 16, .inl (upd y2 (x1).toNatClampNeg (0 : Int32))))] H := hP
        have hD : va_D A [(h, .inr (0, [.ref qf, .ref qd, .ref qi, .ref qs, .ref qr, .ref qc, .ref qg, .ref qh])), (qr, .inl (cI, 2, .inl y1)), (qg, .inl (cI, 16, .inl (upd y2 (x1).toNatClampNeg (0 : Int32))))] := hD
        refine lv_iinc (k := 1) (v := (x1 + (1 : Int32))) (lv' := [(1, .int (x1 + (1 : Int32))), (0, .ref h)]) hx hb d_BC_turnOff_35 hl rfl rfl (by decide) rfl (fun ls hl => ?_)
        refine lv_goto (tgt := 22) hx hb d_BC_turnOff_38 (by decide) ?_
        have e0 : (f_BC_turnOff_22 ru rg (n + 1) x1 y1 y2) = f_BC_turnOff_22 ru rg n (x1 + (1 : Int32)) y1 (upd y2 (x1).toNatClampNeg (0 : Int32)) := by rw [f_BC_turnOff_22, if_neg h4]
        rw [e0]
        exact ih (x1 + (1 : Int32)) y1 (upd y2 (x1).toNatClampNeg (0 : Int32)) _ _ ls (lp_up hI.1 (by assumption)).1 (lp_ms hI.1 (by assumption) hm) (lv_sub hl [1, 0] rfl) hP hD hS
  have lp_2 : ∀ (n : Nat) (x1 : Int32) (y1 : Nat → Int32) (y2 : Nat → Int32) (H : Heap) (locs : List Loc) (ls : Array Slot), 0 ≤ x1 ∧ x1 ≤ 2 → ((2 : Int32).toInt - x1.toInt).toNat < n → lv_has ls 2 [(0, .ref h), (1, .int x1)] → va_P (dC, dI) classes [(h, .inr (0, [.ref qf, .ref qd, .ref qi, .ref qs, .ref qr, .ref qc, .ref qg, .ref qh])), (qr, .inl (cI, 2, .inl y1)), (qg, .inl (cI, 16, .inl y2))] H → va_D A [(h, .inr (0, [.ref qf, .ref qd, .ref qi, .ref qs, .ref qr, .ref qc, .ref qg, .ref qh])), (qr, .inl (cI, 2, .inl y1)), (qg, .inl (cI, 16, .inl y2))] → va_S A s.heap H locs → W p l e (headSpec ws_BC_turnOff ({ frames := 0, cells := 0, slots := 0, locals := 0 } : Room)).room s m ([.ref h] : List Value).toArray below meth c H locs 0 0 (MQ below (va_Qv (fun (_ : Unit) => True) (fun _ => bc_post (dC, dI) cI cJ A [(h, .inr (0, [.ref qf, .ref qd, .ref qi, .ref qs, .ref qr, .ref qc, .ref qg, .ref qh])), (qr, .inl (cI, 2, .inl (f_BC_turnOff_2 ru rg n x1 y1 y2).1)), (qg, .inl (cI, 16, .inl (f_BC_turnOff_2 ru rg n x1 y1 y2).2))]) A) ([.ref h] : List Value).toArray s 0 0 A) (F0 m 2 ls []) := by
    intro n
    induction n with
    | zero => intro x1 y1 y2 H locs ls hI hm; exact absurd hm (Nat.not_lt_zero _)
    | succ n ih =>
      intro x1 y1 y2 H locs ls hI hm hl hP hD hS
      refine lv_iload_n hx hb d_BC_turnOff_2 rfl (lv_at hl 1 rfl) ?_
      refine lv_iconst (v := 2) hx hb d_BC_turnOff_3 (by decide) ?_
      refine lv_icmp_ge (tgt := 20) hx hb d_BC_turnOff_4 (by decide) (fun h3 => ?_) (fun h3 => ?_)
      · refine lv_iconst (v := 0) hx hb d_BC_turnOff_20 (by decide) ?_
        refine lv_istore_n (lv' := [(1, .int (0 : Int32)), (0, .ref h)]) hx hb d_BC_turnOff_21 rfl hl (by decide) rfl (fun ls hl => ?_)
        have e0 : (f_BC_turnOff_2 ru rg (n + 1) x1 y1 y2) = f_BC_turnOff_22 ru rg 17 (0 : Int32) y1 y2 := by rw [f_BC_turnOff_2, if_pos h3]
        rw [e0]
        exact lp_22 17 (0 : Int32) y1 y2 _ _ ls ⟨by decide, by decide⟩ (by decide) (lv_sub hl [1, 0] rfl) hP hD hS
      · refine lv_aload_n hx hb d_BC_turnOff_7 rfl (lv_at hl 0 rfl) ?_
        refine va_get (D := (dC, dI)) (ci := 0) (v := .ref qr) (C := R_BC) (T := F_BC) (N := 8) hx hb hts in_BC hown hK hP 0 rfl rfl 4 (by decide) (hts _ gw_69) (fun _ h9 => h9) rfl d_BC_turnOff_8 ?_
        refine lv_iload_n hx hb d_BC_turnOff_11 rfl (lv_at hl 1 rfl) ?_
        refine lv_iconst (v := (-1)) hx hb d_BC_turnOff_12 (by decide) ?_
        refine va_iast hx hb hK hP hD hS 1 0 rfl rfl (by first | exact ix_sub 2 2 hI.1 (by assumption) rfl (by decide) (by decide) | exact ix_sub 16 16 hI.1 (by assumption) rfl (by decide) (by decide)) d_BC_turnOff_13 (fun H locs hP hD hS => ?_)
        have hP : va_P (dC, dI) classes [(h, .inr (0, [.ref qf, .ref qd, .ref qi, .ref qs, .ref qr, .ref qc, .ref qg, .ref qh])), (qr, .inl (cI, 2, .inl (upd y1 (x1).toNatClampNeg (-1 : Int32)))), (qg, .inl (cI, 16, .inl y2))] H := hP
        have hD : va_D A [(h, .inr (0, [.ref qf, .ref qd, .ref qi, .ref qs, .ref qr, .ref qc, .ref qg, .ref qh])), (qr, .inl (cI, 2, .inl (upd y1 (x1).toNatClampNeg (-1 : Int32)))), (qg, .inl (cI, 16, .inl y2))] := hD
        refine lv_iinc (k := 1) (v := (x1 + (1 : Int32))) (lv' := [(1, .int (x1 + (1 : Int32))), (0, .ref h)]) hx hb d_BC_turnOff_14 hl rfl rfl (by decide) rfl (fun ls hl => ?_)
        refine lv_goto (tgt := 2) hx hb d_BC_turnOff_17 (by decide) ?_
        have e0 : (f_BC_turnOff_2 ru rg (n + 1) x1 y1 y2) = f_BC_turnOff_2 ru rg n (x1 + (1 : Int32)) (upd y1 (x1).toNatClampNeg (-1 : Int32)) y2 := by rw [f_BC_turnOff_2, if_neg h3]
        rw [e0]
        exact ih (x1 + (1 : Int32)) (upd y1 (x1).toNatClampNeg (-1 : Int32)) y2 _ _ ls (lp_up hI.1 (by assumption)).1 (lp_ms hI.1 (by assumption) hm) (lv_sub hl [1, 0] rfl) hP hD hS
  have hl := lv_entry ([.ref h]) (n := 2) (Nat.le_of_ble_eq_true rfl)
  rw [lg_entry_eq]
  generalize (lg_sl ([.ref h]) ++ List.replicate (2 - (lg_sl ([.ref h])).length) Slot.unset).toArray = ls at hl ⊢
  have hl : lv_has ls 2 [(0, .ref h)] := hl
  refine lv_iconst (v := 0) hx hb d_BC_turnOff_0 (by decide) ?_
  refine lv_istore_n (lv' := [(1, .int (0 : Int32)), (0, .ref h)]) hx hb d_BC_turnOff_1 rfl hl (by decide) rfl (fun ls hl => ?_)
  have e0 : (f_BC_turnOff ru rg) = f_BC_turnOff_2 ru rg 3 (0 : Int32) ru rg := by rw [f_BC_turnOff]
  rw [e0]
  exact lp_2 3 (0 : Int32) ru rg _ _ ls ⟨by decide, by decide⟩ (by decide) (lv_sub hl [1, 0] rfl) hP hD hS
-- BC_composeImage
theorem d_BC_composeImage_0 : decode prog_1_method_19_code 0 = .ok (.aload_n 0, 1) := by decide +kernel
theorem d_BC_composeImage_1 : decode prog_1_method_19_code 1 = .ok (.getfield 26, 3) := by decide +kernel
theorem d_BC_composeImage_4 : decode prog_1_method_19_code 4 = .ok (.iload_n 1, 1) := by decide +kernel
theorem d_BC_composeImage_5 : decode prog_1_method_19_code 5 = .ok (.iload_n 2, 1) := by decide +kernel
theorem d_BC_composeImage_6 : decode prog_1_method_19_code 6 = .ok (.aload_n 0, 1) := by decide +kernel
theorem d_BC_composeImage_7 : decode prog_1_method_19_code 7 = .ok (.getfield 19, 3) := by decide +kernel
theorem d_BC_composeImage_10 : decode prog_1_method_19_code 10 = .ok (.invokevirtual 180, 3) := by decide +kernel
theorem d_BC_composeImage_13 : decode prog_1_method_19_code 13 = .ok (.aload_n 0, 1) := by decide +kernel
theorem d_BC_composeImage_14 : decode prog_1_method_19_code 14 = .ok (.getfield 26, 3) := by decide +kernel
theorem d_BC_composeImage_17 : decode prog_1_method_19_code 17 = .ok (.aload_n 0, 1) := by decide +kernel
theorem d_BC_composeImage_18 : decode prog_1_method_19_code 18 = .ok (.getfield 47, 3) := by decide +kernel
theorem d_BC_composeImage_21 : decode prog_1_method_19_code 21 = .ok (.iload_n 1, 1) := by decide +kernel
theorem d_BC_composeImage_22 : decode prog_1_method_19_code 22 = .ok (.aload_n 0, 1) := by decide +kernel
theorem d_BC_composeImage_23 : decode prog_1_method_19_code 23 = .ok (.getfield 33, 3) := by decide +kernel
theorem d_BC_composeImage_26 : decode prog_1_method_19_code 26 = .ok (.invokevirtual 184, 3) := by decide +kernel
theorem d_BC_composeImage_29 : decode prog_1_method_19_code 29 = .ok (.aload_n 0, 1) := by decide +kernel
theorem d_BC_composeImage_30 : decode prog_1_method_19_code 30 = .ok (.getfield 26, 3) := by decide +kernel
theorem d_BC_composeImage_33 : decode prog_1_method_19_code 33 = .ok (.aload_n 0, 1) := by decide +kernel
theorem d_BC_composeImage_34 : decode prog_1_method_19_code 34 = .ok (.getfield 47, 3) := by decide +kernel
theorem d_BC_composeImage_37 : decode prog_1_method_19_code 37 = .ok (.invokevirtual 188, 3) := by decide +kernel
theorem d_BC_composeImage_40 : decode prog_1_method_19_code 40 = .ok (.aload_n 0, 1) := by decide +kernel
theorem d_BC_composeImage_41 : decode prog_1_method_19_code 41 = .ok (.getfield 26, 3) := by decide +kernel
theorem d_BC_composeImage_44 : decode prog_1_method_19_code 44 = .ok (.iload_n 3, 1) := by decide +kernel
theorem d_BC_composeImage_45 : decode prog_1_method_19_code 45 = .ok (.invokevirtual 192, 3) := by decide +kernel
theorem d_BC_composeImage_48 : decode prog_1_method_19_code 48 = .ok (.return_, 1) := by decide +kernel
def y_BC_composeImage : MethodName := ⟨"BootChain", "composeImage", "(III)V"⟩
def ws_BC_composeImage : List Cond := .code y_BC_composeImage prog_1_method_19_code 4 none :: bc_G
def f_BC_composeImage_c1 (sg : Int32) (ve : Int32) (fl : Int32) (dl : Int32) (dw : Nat → Int32) (iw : Nat → Int32) (sl : Int32) (ms : Nat → Int32) (sc : Nat → Int32) (ch : Nat → Int32) (hh : Nat → Int32) (u1 : (Nat → Int32) × Int32 × (Nat → Int32) × (Nat → Int32) × (Nat → Int32)) : (Nat → Int32) × Int32 × (Nat → Int32) × (Nat → Int32) × (Nat → Int32) × (Nat → Int32) := (((f_IM_turnOverLastWord fl ((f_IM_bear (f_IM_compose sg ve iw dl dw) (u1.1))))), (u1.2.1), (u1.2.2.1), (u1.2.2.2.1), (u1.2.2.2.2), (u1.1))
def f_BC_composeImage (sg : Int32) (ve : Int32) (fl : Int32) (dl : Int32) (dw : Nat → Int32) (iw : Nat → Int32) (sl : Int32) (ms : Nat → Int32) (sc : Nat → Int32) (ch : Nat → Int32) (hh : Nat → Int32) : (Nat → Int32) × Int32 × (Nat → Int32) × (Nat → Int32) × (Nat → Int32) × (Nat → Int32) := f_BC_composeImage_c1 sg ve fl dl dw iw sl ms sc ch hh (f_IM_sealInto sg (f_IM_compose sg ve iw dl dw) hh sl ms sc ch)
set_option maxHeartbeats 4000000 in
set_option maxRecDepth 100000 in
theorem c_BC_composeImage (l : Launch) (dC : Nat → ClassId) (dI : Nat → Nat → Nat) (cI cJ : ClassId) (h qf qd qi qs qr qc qg qh qdw qiw gm gs gc : Nat) (sz : Nat) (sg : Int32) (ve : Int32) (fl : Int32) (dl : Int32) (dw : Nat → Int32) (iw : Nat → Int32) (sl : Int32) (ms : Nat → Int32) (sc : Nat → Int32) (ch : Nat → Int32) (hh : Nat → Int32) : Met l y_BC_composeImage ws_BC_composeImage ({ frames := 4, cells := 0, slots := 0, locals := 103 } : Room) (va_Pc [.ref h, .int sg, .int ve, .int fl] (bc_pre (dC, dI) cI cJ [(h, .inr (0, [.ref qf, .ref qd, .ref qi, .ref qs, .ref qr, .ref qc, .ref qg, .ref qh])), (qd, .inr (2, [.ref qdw, .int dl])), (qdw, .inl (cI, 6, .inl dw)), (qi, .inr (3, [.ref qiw])), (qiw, .inl (cI, 16, .inl iw)), (qs, .inr (4, [.ref gm, .ref gs, .ref gc, .int sl])), (gm, .inl (cI, 32, .inl ms)), (gs, .inl (cI, 64, .inl sc)), (gc, .inl (cI, 8, .inl ch)), (qh, .inl (cI, 8, .inl hh))] sz)) (va_Qv (fun (_ : Unit) => True) (fun _ => bc_post (dC, dI) cI cJ (va_A [(h, .inr (0, [.ref qf, .ref qd, .ref qi, .ref qs, .ref qr, .ref qc, .ref qg, .ref qh])), (qd, .inr (2, [.ref qdw, .int dl])), (qdw, .inl (cI, 6, .inl dw)), (qi, .inr (3, [.ref qiw])), (qiw, .inl (cI, 16, .inl iw)), (qs, .inr (4, [.ref gm, .ref gs, .ref gc, .int sl])), (gm, .inl (cI, 32, .inl ms)), (gs, .inl (cI, 64, .inl sc)), (gc, .inl (cI, 8, .inl ch)), (qh, .inl (cI, 8, .inl hh))] sz) [(h, .inr (0, [.ref qf, .ref qd, .ref qi, .ref qs, .ref qr, .ref qc, .ref qg, .ref qh])), (qd, .inr (2, [.ref qdw, .int dl])), (qdw, .inl (cI, 6, .inl dw)), (qi, .inr (3, [.ref qiw])), (qiw, .inl (cI, 16, .inl (f_BC_composeImage sg ve fl dl dw iw sl ms sc ch hh).1)), (qs, .inr (4, [.ref gm, .ref gs, .ref gc, .int (f_BC_composeImage sg ve fl dl dw iw sl ms sc ch hh).2.1])), (gm, .inl (cI, 32, .inl (f_BC_composeImage sg ve fl dl dw iw sl ms sc ch hh).2.2.1)), (gs, .inl (cI, 64, .inl (f_BC_composeImage sg ve fl dl dw iw sl ms sc ch hh).2.2.2.1)), (gc, .inl (cI, 8, .inl (f_BC_composeImage sg ve fl dl dw iw sl ms sc ch hh).2.2.2.2.1)), (qh, .inl (cI, 8, .inl (f_BC_composeImage sg ve fl dl dw iw sl ms sc ch hh).2.2.2.2.2))]) (va_A [(h, .inr (0, [.ref qf, .ref qd, .ref qi, .ref qs, .ref qr, .ref qc, .ref qg, .ref qh])), (qd, .inr (2, [.ref qdw, .int dl])), (qdw, .inl (cI, 6, .inl dw)), (qi, .inr (3, [.ref qiw])), (qiw, .inl (cI, 16, .inl iw)), (qs, .inr (4, [.ref gm, .ref gs, .ref gc, .int sl])), (gm, .inl (cI, 32, .inl ms)), (gs, .inl (cI, 64, .inl sc)), (gc, .inl (cI, 8, .inl ch)), (qh, .inl (cI, 8, .inl hh))] sz)) 0 0 (va_A [(h, .inr (0, [.ref qf, .ref qd, .ref qi, .ref qs, .ref qr, .ref qc, .ref qg, .ref qh])), (qd, .inr (2, [.ref qdw, .int dl])), (qdw, .inl (cI, 6, .inl dw)), (qi, .inr (3, [.ref qiw])), (qiw, .inl (cI, 16, .inl iw)), (qs, .inr (4, [.ref gm, .ref gs, .ref gc, .int sl])), (gm, .inl (cI, 32, .inl ms)), (gs, .inl (cI, 64, .inl sc)), (gc, .inl (cI, 8, .inl ch)), (qh, .inl (cI, 8, .inl hh))] sz) := by
  refine Met.ofW (cc := prog_1_method_19_code) (maxL := 4) (ret := none) (by decide) rfl ?_
  intro p e s m args below meth c s₁ B hml hv
  obtain ⟨rfl, hsz, hP, hK, hD0, hE⟩ := hv
  have hx := B.exec
  have hb := B.bytes
  have hr := B.returns
  have hts : ∀ w ∈ bc_G, w.before ([.ref h, .int sg, .int ve, .int fl] : List Value).toArray s = true := fun w h => atoms_spec (ws := ws_BC_composeImage) B.pre w (List.mem_cons_of_mem _ h)
  have hown : s.vm.findClass "BootChain" = some m.cls := findClass_of_methodNamed B.named
  have hlocks := B.notSynchronized
  subst hsz
  have hD := hD0.self (sz := s.heap.size)
  generalize hAe : va_A [(h, .inr (0, [.ref qf, .ref qd, .ref qi, .ref qs, .ref qr, .ref qc, .ref qg, .ref qh])), (qd, .inr (2, [.ref qdw, .int dl])), (qdw, .inl (cI, 6, .inl dw)), (qi, .inr (3, [.ref qiw])), (qiw, .inl (cI, 16, .inl iw)), (qs, .inr (4, [.ref gm, .ref gs, .ref gc, .int sl])), (gm, .inl (cI, 32, .inl ms)), (gs, .inl (cI, 64, .inl sc)), (gc, .inl (cI, 8, .inl ch)), (qh, .inl (cI, 8, .inl hh))] s.heap.size = A at hD hE ⊢
  have hA : ∀ q : Nat, s.heap.size ≤ q → A q := fun q h => by rw [← hAe]; exact Or.inr h
  have hS : va_S A s.heap s.heap [] := va_S.rf
  have hl := lv_entry ([.ref h, .int sg, .int ve, .int fl]) (n := 4) (Nat.le_of_ble_eq_true rfl)
  rw [lg_entry_eq]
  generalize (lg_sl ([.ref h, .int sg, .int ve, .int fl]) ++ List.replicate (4 - (lg_sl ([.ref h, .int sg, .int ve, .int fl])).length) Slot.unset).toArray = ls at hl ⊢
  have hl : lv_has ls 4 [(0, .ref h), (1, .int sg), (2, .int ve), (3, .int fl)] := hl
  refine lv_aload_n hx hb d_BC_composeImage_0 rfl (lv_at hl 0 rfl) ?_
  refine va_get (D := (dC, dI)) (ci := 0) (v := .ref qi) (C := R_BC) (T := F_BC) (N := 8) hx hb hts in_BC hown hK hP 0 rfl rfl 2 (by decide) (hts _ gw_67) (fun _ h9 => h9) rfl d_BC_composeImage_1 ?_
  refine lv_iload_n hx hb d_BC_composeImage_4 rfl (lv_at hl 1 rfl) ?_
  refine lv_iload_n hx hb d_BC_composeImage_5 rfl (lv_at hl 2 rfl) ?_
  refine lv_aload_n hx hb d_BC_composeImage_6 rfl (lv_at hl 0 rfl) ?_
  refine va_get (D := (dC, dI)) (ci := 0) (v := .ref qd) (C := R_BC) (T := F_BC) (N := 8) hx hb hts in_BC hown hK hP 0 rfl rfl 1 (by decide) (hts _ gw_66) (fun _ h9 => h9) rfl d_BC_composeImage_7 ?_
  have hPc := hP.sub (ws' := [(qi, .inr (3, [.ref qiw])), (qiw, .inl (cI, 16, .inl iw)), (qd, .inr (2, [.ref qdw, .int dl])), (qdw, .inl (cI, 6, .inl dw))]) [3, 4, 1, 2] rfl
  have hDc := hD.sub (ws' := [(qi, .inr (3, [.ref qiw])), (qiw, .inl (cI, 16, .inl iw)), (qd, .inr (2, [.ref qdw, .int dl])), (qdw, .inl (cI, 6, .inl dw))]) [3, 4, 1, 2] (by decide) rfl
  have hFc := va_free (wc := [(qi, .inr (3, [.ref qiw])), (qiw, .inl (cI, 16, .inl iw)), (qd, .inr (2, [.ref qdw, .int dl])), (qdw, .inl (cI, 6, .inl dw))]) hD hS hA [3, 4, 1, 2] rfl
  refine va_callv (va_runV (As := [.int sg, .int ve, .ref qd]) (rest := []) ⟨hx, hb, hml, hown, hts⟩ (c_IM_compose l dC dI cI cJ qi qd qiw qdw _ sg ve iw dl dw) ⟨callB_of 3 hts (bc_good gw_204) rfl rfl rfl (hts _ gw_4) (hts _ gw_201) (by decide +kernel) ⟨Nat.le_of_ble_eq_true rfl, Nat.le_of_ble_eq_true rfl⟩, (hts _ gw_202), (hts _ gw_203)⟩ ⟨bc_blind, va_recv (q0 := 3) hK hP (q := (R_IM, F_IM, 1)) rfl rfl, fun U hU hW => ⟨rfl, bc_give hPc hDc hK hE hS hFc U hU hW⟩⟩ rfl rfl hl.1 rfl (lv_room (Nat.le_of_ble_eq_true rfl)) d_BC_composeImage_10 ⟨Nat.le_of_ble_eq_true rfl, Nat.le_of_ble_eq_true rfl⟩) hS (fun q _ h => hFc q h) hFc (fun u t H9 locs ht hvm hp hB hz1 hk1 hS => ?_)
  obtain ⟨hP, hD⟩ := va_join (wr := [(h, .inr (0, [.ref qf, .ref qd, .ref qi, .ref qs, .ref qr, .ref qc, .ref qg, .ref qh])), (qs, .inr (4, [.ref gm, .ref gs, .ref gc, .int sl])), (gm, .inl (cI, 32, .inl ms)), (gs, .inl (cI, 64, .inl sc)), (gc, .inl (cI, 8, .inl ch)), (qh, .inl (cI, 8, .inl hh))]) (w1 := [(qi, .inr (3, [.ref qiw])), (qiw, .inl (cI, 16, .inl (f_IM_compose sg ve iw dl dw))), (qd, .inr (2, [.ref qdw, .int dl])), (qdw, .inl (cI, 6, .inl dw))]) hP hD [3, 4, 1, 2] [0, 5, 6, 7, 8, 9] rfl rfl (by decide) (by decide) hk1 hFc (ht ▸ hB.1) hB.2.2
  have hP := hP.sub (ws' := [(h, .inr (0, [.ref qf, .ref qd, .ref qi, .ref qs, .ref qr, .ref qc, .ref qg, .ref qh])), (qd, .inr (2, [.ref qdw, .int dl])), (qdw, .inl (cI, 6, .inl dw)), (qi, .inr (3, [.ref qiw])), (qiw, .inl (cI, 16, .inl (f_IM_compose sg ve iw dl dw))), (qs, .inr (4, [.ref gm, .ref gs, .ref gc, .int sl])), (gm, .inl (cI, 32, .inl ms)), (gs, .inl (cI, 64, .inl sc)), (gc, .inl (cI, 8, .inl ch)), (qh, .inl (cI, 8, .inl hh))]) [0, 8, 9, 6, 7, 1, 2, 3, 4, 5] rfl
  have hD := hD.sub (ws' := [(h, .inr (0, [.ref qf, .ref qd, .ref qi, .ref qs, .ref qr, .ref qc, .ref qg, .ref qh])), (qd, .inr (2, [.ref qdw, .int dl])), (qdw, .inl (cI, 6, .inl dw)), (qi, .inr (3, [.ref qiw])), (qiw, .inl (cI, 16, .inl (f_IM_compose sg ve iw dl dw))), (qs, .inr (4, [.ref gm, .ref gs, .ref gc, .int sl])), (gm, .inl (cI, 32, .inl ms)), (gs, .inl (cI, 64, .inl sc)), (gc, .inl (cI, 8, .inl ch)), (qh, .inl (cI, 8, .inl hh))]) [0, 8, 9, 6, 7, 1, 2, 3, 4, 5] (by decide) rfl
  generalize H9 = H at hP hS ⊢
  refine lv_aload_n hx hb d_BC_composeImage_13 rfl (lv_at hl 0 rfl) ?_
  refine va_get (D := (dC, dI)) (ci := 0) (v := .ref qi) (C := R_BC) (T := F_BC) (N := 8) hx hb hts in_BC hown hK hP 0 rfl rfl 2 (by decide) (hts _ gw_67) (fun _ h9 => h9) rfl d_BC_composeImage_14 ?_
  refine lv_aload_n hx hb d_BC_composeImage_17 rfl (lv_at hl 0 rfl) ?_
  refine va_get (D := (dC, dI)) (ci := 0) (v := .ref qh) (C := R_BC) (T := F_BC) (N := 8) hx hb hts in_BC hown hK hP 0 rfl rfl 7 (by decide) (hts _ gw_72) (fun _ h9 => h9) rfl d_BC_composeImage_18 ?_
  refine lv_iload_n hx hb d_BC_composeImage_21 rfl (lv_at hl 1 rfl) ?_
  refine lv_aload_n hx hb d_BC_composeImage_22 rfl (lv_at hl 0 rfl) ?_
  refine va_get (D := (dC, dI)) (ci := 0) (v := .ref qs) (C := R_BC) (T := F_BC) (N := 8) hx hb hts in_BC hown hK hP 0 rfl rfl 3 (by decide) (hts _ gw_68) (fun _ h9 => h9) rfl d_BC_composeImage_23 ?_
  have hPc := hP.sub (ws' := [(qi, .inr (3, [.ref qiw])), (qiw, .inl (cI, 16, .inl (f_IM_compose sg ve iw dl dw))), (qh, .inl (cI, 8, .inl hh)), (qs, .inr (4, [.ref gm, .ref gs, .ref gc, .int sl])), (gm, .inl (cI, 32, .inl ms)), (gs, .inl (cI, 64, .inl sc)), (gc, .inl (cI, 8, .inl ch))]) [3, 4, 9, 5, 6, 7, 8] rfl
  have hDc := hD.sub (ws' := [(qi, .inr (3, [.ref qiw])), (qiw, .inl (cI, 16, .inl (f_IM_compose sg ve iw dl dw))), (qh, .inl (cI, 8, .inl hh)), (qs, .inr (4, [.ref gm, .ref gs, .ref gc, .int sl])), (gm, .inl (cI, 32, .inl ms)), (gs, .inl (cI, 64, .inl sc)), (gc, .inl (cI, 8, .inl ch))]) [3, 4, 9, 5, 6, 7, 8] (by decide) rfl
  have hFc := va_free (wc := [(qi, .inr (3, [.ref qiw])), (qiw, .inl (cI, 16, .inl (f_IM_compose sg ve iw dl dw))), (qh, .inl (cI, 8, .inl hh)), (qs, .inr (4, [.ref gm, .ref gs, .ref gc, .int sl])), (gm, .inl (cI, 32, .inl ms)), (gs, .inl (cI, 64, .inl sc)), (gc, .inl (cI, 8, .inl ch))]) hD hS hA [3, 4, 9, 5, 6, 7, 8] rfl
  refine va_callv (va_runV (As := [.ref qh, .int sg, .ref qs]) (rest := []) ⟨hx, hb, hml, hown, hts⟩ (c_IM_sealInto l dC dI cI cJ qi qh qs qiw gm gs gc _ sg (f_IM_compose sg ve iw dl dw) hh sl ms sc ch) ⟨callB_of 3 hts (bc_good gw_209) rfl rfl rfl (hts _ gw_4) (hts _ gw_206) (by decide +kernel) ⟨Nat.le_of_ble_eq_true rfl, Nat.le_of_ble_eq_true rfl⟩, (hts _ gw_207), (hts _ gw_208)⟩ ⟨bc_blind, va_recv (q0 := 3) hK hP (q := (R_IM, F_IM, 1)) rfl rfl, fun U hU hW => ⟨rfl, bc_give hPc hDc hK hE hS hFc U hU hW⟩⟩ rfl rfl hl.1 rfl (lv_room (Nat.le_of_ble_eq_true rfl)) d_BC_composeImage_26 ⟨Nat.le_of_ble_eq_true rfl, Nat.le_of_ble_eq_true rfl⟩) hS (fun q _ h => hFc q h) hFc (fun u t H9 locs ht hvm hp hB hz1 hk1 hS => ?_)
  obtain ⟨hP, hD⟩ := va_join (wr := [(h, .inr (0, [.ref qf, .ref qd, .ref qi, .ref qs, .ref qr, .ref qc, .ref qg, .ref qh])), (qd, .inr (2, [.ref qdw, .int dl])), (qdw, .inl (cI, 6, .inl dw))]) (w1 := [(qi, .inr (3, [.ref qiw])), (qiw, .inl (cI, 16, .inl (f_IM_compose sg ve iw dl dw))), (qh, .inl (cI, 8, .inl ((f_IM_sealInto sg (f_IM_compose sg ve iw dl dw) hh sl ms sc ch).1))), (qs, .inr (4, [.ref gm, .ref gs, .ref gc, .int ((f_IM_sealInto sg (f_IM_compose sg ve iw dl dw) hh sl ms sc ch).2.1)])), (gm, .inl (cI, 32, .inl ((f_IM_sealInto sg (f_IM_compose sg ve iw dl dw) hh sl ms sc ch).2.2.1))), (gs, .inl (cI, 64, .inl ((f_IM_sealInto sg (f_IM_compose sg ve iw dl dw) hh sl ms sc ch).2.2.2.1))), (gc, .inl (cI, 8, .inl ((f_IM_sealInto sg (f_IM_compose sg ve iw dl dw) hh sl ms sc ch).2.2.2.2)))]) hP hD [3, 4, 9, 5, 6, 7, 8] [0, 1, 2] rfl rfl (by decide) (by decide) hk1 hFc (ht ▸ hB.1) hB.2.2
  have hP := hP.sub (ws' := [(h, .inr (0, [.ref qf, .ref qd, .ref qi, .ref qs, .ref qr, .ref qc, .ref qg, .ref qh])), (qd, .inr (2, [.ref qdw, .int dl])), (qdw, .inl (cI, 6, .inl dw)), (qi, .inr (3, [.ref qiw])), (qiw, .inl (cI, 16, .inl (f_IM_compose sg ve iw dl dw))), (qs, .inr (4, [.ref gm, .ref gs, .ref gc, .int ((f_IM_sealInto sg (f_IM_compose sg ve iw dl dw) hh sl ms sc ch).2.1)])), (gm, .inl (cI, 32, .inl ((f_IM_sealInto sg (f_IM_compose sg ve iw dl dw) hh sl ms sc ch).2.2.1))), (gs, .inl (cI, 64, .inl ((f_IM_sealInto sg (f_IM_compose sg ve iw dl dw) hh sl ms sc ch).2.2.2.1))), (gc, .inl (cI, 8, .inl ((f_IM_sealInto sg (f_IM_compose sg ve iw dl dw) hh sl ms sc ch).2.2.2.2))), (qh, .inl (cI, 8, .inl ((f_IM_sealInto sg (f_IM_compose sg ve iw dl dw) hh sl ms sc ch).1)))]) [0, 1, 2, 3, 4, 6, 7, 8, 9, 5] rfl
  have hD := hD.sub (ws' := [(h, .inr (0, [.ref qf, .ref qd, .ref qi, .ref qs, .ref qr, .ref qc, .ref qg, .ref qh])), (qd, .inr (2, [.ref qdw, .int dl])), (qdw, .inl (cI, 6, .inl dw)), (qi, .inr (3, [.ref qiw])), (qiw, .inl (cI, 16, .inl (f_IM_compose sg ve iw dl dw))), (qs, .inr (4, [.ref gm, .ref gs, .ref gc, .int ((f_IM_sealInto sg (f_IM_compose sg ve iw dl dw) hh sl ms sc ch).2.1)])), (gm, .inl (cI, 32, .inl ((f_IM_sealInto sg (f_IM_compose sg ve iw dl dw) hh sl ms sc ch).2.2.1))), (gs, .inl (cI, 64, .inl ((f_IM_sealInto sg (f_IM_compose sg ve iw dl dw) hh sl ms sc ch).2.2.2.1))), (gc, .inl (cI, 8, .inl ((f_IM_sealInto sg (f_IM_compose sg ve iw dl dw) hh sl ms sc ch).2.2.2.2))), (qh, .inl (cI, 8, .inl ((f_IM_sealInto sg (f_IM_compose sg ve iw dl dw) hh sl ms sc ch).1)))]) [0, 1, 2, 3, 4, 6, 7, 8, 9, 5] (by decide) rfl
  generalize H9 = H at hP hS ⊢
  have e0 : (f_BC_composeImage sg ve fl dl dw iw sl ms sc ch hh) = f_BC_composeImage_c1 sg ve fl dl dw iw sl ms sc ch hh (f_IM_sealInto sg (f_IM_compose sg ve iw dl dw) hh sl ms sc ch) := by rw [f_BC_composeImage]
  rw [e0]
  generalize hu1 : (f_IM_sealInto sg (f_IM_compose sg ve iw dl dw) hh sl ms sc ch) = u1 at hP hD ⊢
  have hP : va_P (dC, dI) classes [(h, .inr (0, [.ref qf, .ref qd, .ref qi, .ref qs, .ref qr, .ref qc, .ref qg, .ref qh])), (qd, .inr (2, [.ref qdw, .int dl])), (qdw, .inl (cI, 6, .inl dw)), (qi, .inr (3, [.ref qiw])), (qiw, .inl (cI, 16, .inl (f_IM_compose sg ve iw dl dw))), (qs, .inr (4, [.ref gm, .ref gs, .ref gc, .int (u1.2.1)])), (gm, .inl (cI, 32, .inl (u1.2.2.1))), (gs, .inl (cI, 64, .inl (u1.2.2.2.1))), (gc, .inl (cI, 8, .inl (u1.2.2.2.2))), (qh, .inl (cI, 8, .inl (u1.1)))] H := hP
  have hD : va_D A [(h, .inr (0, [.ref qf, .ref qd, .ref qi, .ref qs, .ref qr, .ref qc, .ref qg, .ref qh])), (qd, .inr (2, [.ref qdw, .int dl])), (qdw, .inl (cI, 6, .inl dw)), (qi, .inr (3, [.ref qiw])), (qiw, .inl (cI, 16, .inl (f_IM_compose sg ve iw dl dw))), (qs, .inr (4, [.ref gm, .ref gs, .ref gc, .int (u1.2.1)])), (gm, .inl (cI, 32, .inl (u1.2.2.1))), (gs, .inl (cI, 64, .inl (u1.2.2.2.1))), (gc, .inl (cI, 8, .inl (u1.2.2.2.2))), (qh, .inl (cI, 8, .inl (u1.1)))] := hD
  refine lv_aload_n hx hb d_BC_composeImage_29 rfl (lv_at hl 0 rfl) ?_
  refine va_get (D := (dC, dI)) (ci := 0) (v := .ref qi) (C := R_BC) (T := F_BC) (N := 8) hx hb hts in_BC hown hK hP 0 rfl rfl 2 (by decide) (hts _ gw_67) (fun _ h9 => h9) rfl d_BC_composeImage_30 ?_
  refine lv_aload_n hx hb d_BC_composeImage_33 rfl (lv_at hl 0 rfl) ?_
  refine va_get (D := (dC, dI)) (ci := 0) (v := .ref qh) (C := R_BC) (T := F_BC) (N := 8) hx hb hts in_BC hown hK hP 0 rfl rfl 7 (by decide) (hts _ gw_72) (fun _ h9 => h9) rfl d_BC_composeImage_34 ?_
  have hPc := hP.sub (ws' := [(qi, .inr (3, [.ref qiw])), (qiw, .inl (cI, 16, .inl (f_IM_compose sg ve iw dl dw))), (qh, .inl (cI, 8, .inl (u1.1)))]) [3, 4, 9] rfl
  have hDc := hD.sub (ws' := [(qi, .inr (3, [.ref qiw])), (qiw, .inl (cI, 16, .inl (f_IM_compose sg ve iw dl dw))), (qh, .inl (cI, 8, .inl (u1.1)))]) [3, 4, 9] (by decide) rfl
  have hFc := va_free (wc := [(qi, .inr (3, [.ref qiw])), (qiw, .inl (cI, 16, .inl (f_IM_compose sg ve iw dl dw))), (qh, .inl (cI, 8, .inl (u1.1)))]) hD hS hA [3, 4, 9] rfl
  refine va_callv (va_runV (As := [.ref qh]) (rest := []) ⟨hx, hb, hml, hown, hts⟩ (c_IM_bear l dC dI cI cJ qi qh qiw _ (f_IM_compose sg ve iw dl dw) (u1.1)) ⟨callB_of 1 hts (bc_good gw_248) rfl rfl rfl (hts _ gw_4) (hts _ gw_245) (by decide +kernel) ⟨Nat.le_of_ble_eq_true rfl, Nat.le_of_ble_eq_true rfl⟩, (hts _ gw_246), (hts _ gw_247)⟩ ⟨bc_blind, va_recv (q0 := 3) hK hP (q := (R_IM, F_IM, 1)) rfl rfl, fun U hU hW => ⟨rfl, bc_give hPc hDc hK hE hS hFc U hU hW⟩⟩ rfl rfl hl.1 rfl (lv_room (Nat.le_of_ble_eq_true rfl)) d_BC_composeImage_37 ⟨Nat.le_of_ble_eq_true rfl, Nat.le_of_ble_eq_true rfl⟩) hS (fun q _ h => hFc q h) hFc (fun u t H9 locs ht hvm hp hB hz1 hk1 hS => ?_)
  obtain ⟨hP, hD⟩ := va_join (wr := [(h, .inr (0, [.ref qf, .ref qd, .ref qi, .ref qs, .ref qr, .ref qc, .ref qg, .ref qh])), (qd, .inr (2, [.ref qdw, .int dl])), (qdw, .inl (cI, 6, .inl dw)), (qs, .inr (4, [.ref gm, .ref gs, .ref gc, .int (u1.2.1)])), (gm, .inl (cI, 32, .inl (u1.2.2.1))), (gs, .inl (cI, 64, .inl (u1.2.2.2.1))), (gc, .inl (cI, 8, .inl (u1.2.2.2.2)))]) (w1 := [(qi, .inr (3, [.ref qiw])), (qiw, .inl (cI, 16, .inl ((f_IM_bear (f_IM_compose sg ve iw dl dw) (u1.1))))), (qh, .inl (cI, 8, .inl (u1.1)))]) hP hD [3, 4, 9] [0, 1, 2, 5, 6, 7, 8] rfl rfl (by decide) (by decide) hk1 hFc (ht ▸ hB.1) hB.2.2
  have hP := hP.sub (ws' := [(h, .inr (0, [.ref qf, .ref qd, .ref qi, .ref qs, .ref qr, .ref qc, .ref qg, .ref qh])), (qd, .inr (2, [.ref qdw, .int dl])), (qdw, .inl (cI, 6, .inl dw)), (qi, .inr (3, [.ref qiw])), (qiw, .inl (cI, 16, .inl ((f_IM_bear (f_IM_compose sg ve iw dl dw) (u1.1))))), (qs, .inr (4, [.ref gm, .ref gs, .ref gc, .int (u1.2.1)])), (gm, .inl (cI, 32, .inl (u1.2.2.1))), (gs, .inl (cI, 64, .inl (u1.2.2.2.1))), (gc, .inl (cI, 8, .inl (u1.2.2.2.2))), (qh, .inl (cI, 8, .inl (u1.1)))]) [0, 1, 2, 7, 8, 3, 4, 5, 6, 9] rfl
  have hD := hD.sub (ws' := [(h, .inr (0, [.ref qf, .ref qd, .ref qi, .ref qs, .ref qr, .ref qc, .ref qg, .ref qh])), (qd, .inr (2, [.ref qdw, .int dl])), (qdw, .inl (cI, 6, .inl dw)), (qi, .inr (3, [.ref qiw])), (qiw, .inl (cI, 16, .inl ((f_IM_bear (f_IM_compose sg ve iw dl dw) (u1.1))))), (qs, .inr (4, [.ref gm, .ref gs, .ref gc, .int (u1.2.1)])), (gm, .inl (cI, 32, .inl (u1.2.2.1))), (gs, .inl (cI, 64, .inl (u1.2.2.2.1))), (gc, .inl (cI, 8, .inl (u1.2.2.2.2))), (qh, .inl (cI, 8, .inl (u1.1)))]) [0, 1, 2, 7, 8, 3, 4, 5, 6, 9] (by decide) rfl
  generalize H9 = H at hP hS ⊢
  refine lv_aload_n hx hb d_BC_composeImage_40 rfl (lv_at hl 0 rfl) ?_
  refine va_get (D := (dC, dI)) (ci := 0) (v := .ref qi) (C := R_BC) (T := F_BC) (N := 8) hx hb hts in_BC hown hK hP 0 rfl rfl 2 (by decide) (hts _ gw_67) (fun _ h9 => h9) rfl d_BC_composeImage_41 ?_
  refine lv_iload_n hx hb d_BC_composeImage_44 rfl (lv_at hl 3 rfl) ?_
  have hPc := hP.sub (ws' := [(qi, .inr (3, [.ref qiw])), (qiw, .inl (cI, 16, .inl ((f_IM_bear (f_IM_compose sg ve iw dl dw) (u1.1)))))]) [3, 4] rfl
  have hDc := hD.sub (ws' := [(qi, .inr (3, [.ref qiw])), (qiw, .inl (cI, 16, .inl ((f_IM_bear (f_IM_compose sg ve iw dl dw) (u1.1)))))]) [3, 4] (by decide) rfl
  have hFc := va_free (wc := [(qi, .inr (3, [.ref qiw])), (qiw, .inl (cI, 16, .inl ((f_IM_bear (f_IM_compose sg ve iw dl dw) (u1.1)))))]) hD hS hA [3, 4] rfl
  refine va_callv (va_runV (As := [.int fl]) (rest := []) ⟨hx, hb, hml, hown, hts⟩ (c_IM_turnOverLastWord l dC dI cI cJ qi qiw _ fl ((f_IM_bear (f_IM_compose sg ve iw dl dw) (u1.1)))) ⟨callB_of 1 hts (bc_good gw_252) rfl rfl rfl (hts _ gw_4) (hts _ gw_249) (by decide +kernel) ⟨Nat.le_of_ble_eq_true rfl, Nat.le_of_ble_eq_true rfl⟩, (hts _ gw_250), (hts _ gw_251)⟩ ⟨bc_blind, va_recv (q0 := 3) hK hP (q := (R_IM, F_IM, 1)) rfl rfl, fun U hU hW => ⟨rfl, bc_give hPc hDc hK hE hS hFc U hU hW⟩⟩ rfl rfl hl.1 rfl (lv_room (Nat.le_of_ble_eq_true rfl)) d_BC_composeImage_45 ⟨Nat.le_of_ble_eq_true rfl, Nat.le_of_ble_eq_true rfl⟩) hS (fun q _ h => hFc q h) hFc (fun u t H9 locs ht hvm hp hB hz1 hk1 hS => ?_)
  obtain ⟨hP, hD⟩ := va_join (wr := [(h, .inr (0, [.ref qf, .ref qd, .ref qi, .ref qs, .ref qr, .ref qc, .ref qg, .ref qh])), (qd, .inr (2, [.ref qdw, .int dl])), (qdw, .inl (cI, 6, .inl dw)), (qs, .inr (4, [.ref gm, .ref gs, .ref gc, .int (u1.2.1)])), (gm, .inl (cI, 32, .inl (u1.2.2.1))), (gs, .inl (cI, 64, .inl (u1.2.2.2.1))), (gc, .inl (cI, 8, .inl (u1.2.2.2.2))), (qh, .inl (cI, 8, .inl (u1.1)))]) (w1 := [(qi, .inr (3, [.ref qiw])), (qiw, .inl (cI, 16, .inl ((f_IM_turnOverLastWord fl ((f_IM_bear (f_IM_compose sg ve iw dl dw) (u1.1)))))))]) hP hD [3, 4] [0, 1, 2, 5, 6, 7, 8, 9] rfl rfl (by decide) (by decide) hk1 hFc (ht ▸ hB.1) hB.2.2
  have hP := hP.sub (ws' := [(h, .inr (0, [.ref qf, .ref qd, .ref qi, .ref qs, .ref qr, .ref qc, .ref qg, .ref qh])), (qd, .inr (2, [.ref qdw, .int dl])), (qdw, .inl (cI, 6, .inl dw)), (qi, .inr (3, [.ref qiw])), (qiw, .inl (cI, 16, .inl ((f_IM_turnOverLastWord fl ((f_IM_bear (f_IM_compose sg ve iw dl dw) (u1.1))))))), (qs, .inr (4, [.ref gm, .ref gs, .ref gc, .int (u1.2.1)])), (gm, .inl (cI, 32, .inl (u1.2.2.1))), (gs, .inl (cI, 64, .inl (u1.2.2.2.1))), (gc, .inl (cI, 8, .inl (u1.2.2.2.2))), (qh, .inl (cI, 8, .inl (u1.1)))]) [0, 1, 2, 8, 9, 3, 4, 5, 6, 7] rfl
  have hD := hD.sub (ws' := [(h, .inr (0, [.ref qf, .ref qd, .ref qi, .ref qs, .ref qr, .ref qc, .ref qg, .ref qh])), (qd, .inr (2, [.ref qdw, .int dl])), (qdw, .inl (cI, 6, .inl dw)), (qi, .inr (3, [.ref qiw])), (qiw, .inl (cI, 16, .inl ((f_IM_turnOverLastWord fl ((f_IM_bear (f_IM_compose sg ve iw dl dw) (u1.1))))))), (qs, .inr (4, [.ref gm, .ref gs, .ref gc, .int (u1.2.1)])), (gm, .inl (cI, 32, .inl (u1.2.2.1))), (gs, .inl (cI, 64, .inl (u1.2.2.2.1))), (gc, .inl (cI, 8, .inl (u1.2.2.2.2))), (qh, .inl (cI, 8, .inl (u1.1)))]) [0, 1, 2, 8, 9, 3, 4, 5, 6, 7] (by decide) rfl
  generalize H9 = H at hP hS ⊢
  have e0 : (f_BC_composeImage_c1 sg ve fl dl dw iw sl ms sc ch hh u1) = (((f_IM_turnOverLastWord fl ((f_IM_bear (f_IM_compose sg ve iw dl dw) (u1.1))))), (u1.2.1), (u1.2.2.1), (u1.2.2.2.1), (u1.2.2.2.2), (u1.1)) := by rw [f_BC_composeImage_c1]
  rw [e0]
  exact W.vret hx hb hr (fun t ht hW => ⟨⟨(), rfl, trivial, by rw [ht]; exact hP, va_K.moved hW.alike hK, hD⟩, hS.F ht⟩) hS.2.2 d_BC_composeImage_48
-- BC_state
theorem d_BC_state_0 : decode prog_1_method_10_code 0 = .ok (.aload_n 0, 1) := by decide +kernel
theorem d_BC_state_1 : decode prog_1_method_10_code 1 = .ok (.getfield 10, 3) := by decide +kernel
theorem d_BC_state_4 : decode prog_1_method_10_code 4 = .ok (.invokevirtual 82, 3) := by decide +kernel
theorem d_BC_state_7 : decode prog_1_method_10_code 7 = .ok (.ireturn, 1) := by decide +kernel
def y_BC_state : MethodName := ⟨"BootChain", "state", "()I"⟩
def ws_BC_state : List Cond := .code y_BC_state prog_1_method_10_code 1 (some .int) :: bc_G
def f_BC_state (wl : Int32) (fw : Nat → Int32) : Int32 := (f_FL_heldState wl fw)
set_option maxHeartbeats 4000000 in
set_option maxRecDepth 100000 in
theorem c_BC_state (l : Launch) (dC : Nat → ClassId) (dI : Nat → Nat → Nat) (cI cJ : ClassId) (h qf qd qi qs qr qc qg qh qfw : Nat) (sz : Nat) (wl : Int32) (fw : Nat → Int32) : Met l y_BC_state ws_BC_state ({ frames := 5, cells := 0, slots := 0, locals := 107 } : Room) (va_Pc [.ref h] (bc_pre (dC, dI) cI cJ [(h, .inr (0, [.ref qf, .ref qd, .ref qi, .ref qs, .ref qr, .ref qc, .ref qg, .ref qh])), (qf, .inr (1, [.ref qfw, .int wl])), (qfw, .inl (cI, 70, .inl fw))] sz)) (va_Qi (fun (r : Int32) (_ : Unit) => r = (f_BC_state wl fw)) (fun _ => bc_post (dC, dI) cI cJ (va_A [(h, .inr (0, [.ref qf, .ref qd, .ref qi, .ref qs, .ref qr, .ref qc, .ref qg, .ref qh])), (qf, .inr (1, [.ref qfw, .int wl])), (qfw, .inl (cI, 70, .inl fw))] sz) [(h, .inr (0, [.ref qf, .ref qd, .ref qi, .ref qs, .ref qr, .ref qc, .ref qg, .ref qh])), (qf, .inr (1, [.ref qfw, .int wl])), (qfw, .inl (cI, 70, .inl fw))]) (va_A [(h, .inr (0, [.ref qf, .ref qd, .ref qi, .ref qs, .ref qr, .ref qc, .ref qg, .ref qh])), (qf, .inr (1, [.ref qfw, .int wl])), (qfw, .inl (cI, 70, .inl fw))] sz)) 0 0 (va_A [(h, .inr (0, [.ref qf, .ref qd, .ref qi, .ref qs, .ref qr, .ref qc, .ref qg, .ref qh])), (qf, .inr (1, [.ref qfw, .int wl])), (qfw, .inl (cI, 70, .inl fw))] sz) := by
  refine Met.ofW (cc := prog_1_method_10_code) (maxL := 1) (ret := (some .int)) (by decide) rfl ?_
  intro p e s m args below meth c s₁ B hml hv
  obtain ⟨rfl, hsz, hP, hK, hD0, hE⟩ := hv
  have hx := B.exec
  have hb := B.bytes
  have hr := B.returns
  have hts : ∀ w ∈ bc_G, w.before ([.ref h] : List Value).toArray s = true := fun w h => atoms_spec (ws := ws_BC_state) B.pre w (List.mem_cons_of_mem _ h)
  have hown : s.vm.findClass "BootChain" = some m.cls := findClass_of_methodNamed B.named
  have hlocks := B.notSynchronized
  subst hsz
  have hD := hD0.self (sz := s.heap.size)
  generalize hAe : va_A [(h, .inr (0, [.ref qf, .ref qd, .ref qi, .ref qs, .ref qr, .ref qc, .ref qg, .ref qh])), (qf, .inr (1, [.ref qfw, .int wl])), (qfw, .inl (cI, 70, .inl fw))] s.heap.size = A at hD hE ⊢
  have hA : ∀ q : Nat, s.heap.size ≤ q → A q := fun q h => by rw [← hAe]; exact Or.inr h
  have hS : va_S A s.heap s.heap [] := va_S.rf
  have hl := lv_entry ([.ref h]) (n := 1) (Nat.le_of_ble_eq_true rfl)
  rw [lg_entry_eq]
  generalize (lg_sl ([.ref h]) ++ List.replicate (1 - (lg_sl ([.ref h])).length) Slot.unset).toArray = ls at hl ⊢
  have hl : lv_has ls 1 [(0, .ref h)] := hl
  refine lv_aload_n hx hb d_BC_state_0 rfl (lv_at hl 0 rfl) ?_
  refine va_get (D := (dC, dI)) (ci := 0) (v := .ref qf) (C := R_BC) (T := F_BC) (N := 8) hx hb hts in_BC hown hK hP 0 rfl rfl 0 (by decide) (hts _ gw_65) (fun _ h9 => h9) rfl d_BC_state_1 ?_
  have hPc := hP.sub (ws' := [(qf, .inr (1, [.ref qfw, .int wl])), (qfw, .inl (cI, 70, .inl fw))]) [1, 2] rfl
  have hDc := hD.sub (ws' := [(qf, .inr (1, [.ref qfw, .int wl])), (qfw, .inl (cI, 70, .inl fw))]) [1, 2] (by decide) rfl
  have hFc := va_free (wc := [(qf, .inr (1, [.ref qfw, .int wl])), (qfw, .inl (cI, 70, .inl fw))]) hD hS hA [1, 2] rfl
  refine va_calli (va_runV (As := []) (rest := []) ⟨hx, hb, hml, hown, hts⟩ (c_FL_heldState l dC dI cI cJ qf qfw _ wl fw) ⟨callB_of 0 hts (bc_good gw_89) rfl rfl rfl (hts _ gw_2) (hts _ gw_86) (by decide +kernel) ⟨Nat.le_of_ble_eq_true rfl, Nat.le_of_ble_eq_true rfl⟩, (hts _ gw_87), (hts _ gw_88)⟩ ⟨bc_blind, va_recv (q0 := 1) hK hP (q := (R_FL, F_FL, 2)) rfl rfl, fun U hU hW => ⟨rfl, bc_give hPc hDc hK hE hS hFc U hU hW⟩⟩ rfl rfl hl.1 rfl (lv_room (Nat.le_of_ble_eq_true rfl)) d_BC_state_4 ⟨Nat.le_of_ble_eq_true rfl, Nat.le_of_ble_eq_true rfl⟩) hS (fun q _ h => hFc q h) hFc (fun r u t H9 locs ht hvm hp hB hz1 hk1 hS => ?_)
  subst hp
  obtain ⟨hP, hD⟩ := va_join (wr := [(h, .inr (0, [.ref qf, .ref qd, .ref qi, .ref qs, .ref qr, .ref qc, .ref qg, .ref qh]))]) (w1 := [(qf, .inr (1, [.ref qfw, .int wl])), (qfw, .inl (cI, 70, .inl fw))]) hP hD [1, 2] [0] rfl rfl (by decide) (by decide) hk1 hFc (ht ▸ hB.1) hB.2.2
  have hP := hP.sub (ws' := [(h, .inr (0, [.ref qf, .ref qd, .ref qi, .ref qs, .ref qr, .ref qc, .ref qg, .ref qh])), (qf, .inr (1, [.ref qfw, .int wl])), (qfw, .inl (cI, 70, .inl fw))]) [0, 1, 2] rfl
  have hD := hD.sub (ws' := [(h, .inr (0, [.ref qf, .ref qd, .ref qi, .ref qs, .ref qr, .ref qc, .ref qg, .ref qh])), (qf, .inr (1, [.ref qfw, .int wl])), (qfw, .inl (cI, 70, .inl fw))]) [0, 1, 2] (by decide) rfl
  generalize H9 = H at hP hS ⊢
  have e0 : (f_BC_state wl fw) = (f_FL_heldState wl fw) := by rw [f_BC_state]
  rw [e0]
  exact W.iret (v := (f_FL_heldState wl fw)) hx hb hr (fun t ht hW => ⟨⟨(f_FL_heldState wl fw), (), rfl, rfl, by rw [ht]; exact hP, va_K.moved hW.alike hK, hD⟩, hS.F ht⟩) hS.2.2 d_BC_state_7
-- BC_isGood
theorem d_BC_isGood_0 : decode prog_1_method_22_code 0 = .ok (.aload_n 0, 1) := by decide +kernel
theorem d_BC_isGood_1 : decode prog_1_method_22_code 1 = .ok (.getfield 26, 3) := by decide +kernel
theorem d_BC_isGood_4 : decode prog_1_method_22_code 4 = .ok (.aload_n 0, 1) := by decide +kernel
theorem d_BC_isGood_5 : decode prog_1_method_22_code 5 = .ok (.getfield 10, 3) := by decide +kernel
theorem d_BC_isGood_8 : decode prog_1_method_22_code 8 = .ok (.iload_n 1, 1) := by decide +kernel
theorem d_BC_isGood_9 : decode prog_1_method_22_code 9 = .ok (.invokevirtual 210, 3) := by decide +kernel
theorem d_BC_isGood_12 : decode prog_1_method_22_code 12 = .ok (.aload_n 0, 1) := by decide +kernel
theorem d_BC_isGood_13 : decode prog_1_method_22_code 13 = .ok (.getfield 26, 3) := by decide +kernel
theorem d_BC_isGood_16 : decode prog_1_method_22_code 16 = .ok (.iload_n 2, 1) := by decide +kernel
theorem d_BC_isGood_17 : decode prog_1_method_22_code 17 = .ok (.invokevirtual 214, 3) := by decide +kernel
theorem d_BC_isGood_20 : decode prog_1_method_22_code 20 = .ok (.ifCond .eq 19, 3) := by decide +kernel
theorem d_BC_isGood_23 : decode prog_1_method_22_code 23 = .ok (.aload_n 0, 1) := by decide +kernel
theorem d_BC_isGood_24 : decode prog_1_method_22_code 24 = .ok (.getfield 26, 3) := by decide +kernel
theorem d_BC_isGood_27 : decode prog_1_method_22_code 27 = .ok (.invokevirtual 217, 3) := by decide +kernel
theorem d_BC_isGood_30 : decode prog_1_method_22_code 30 = .ok (.aload_n 0, 1) := by decide +kernel
theorem d_BC_isGood_31 : decode prog_1_method_22_code 31 = .ok (.getfield 41, 3) := by decide +kernel
theorem d_BC_isGood_34 : decode prog_1_method_22_code 34 = .ok (.iload_n 2, 1) := by decide +kernel
theorem d_BC_isGood_35 : decode prog_1_method_22_code 35 = .ok (.iaload, 1) := by decide +kernel
theorem d_BC_isGood_36 : decode prog_1_method_22_code 36 = .ok (.if_icmp .ge 5, 3) := by decide +kernel
theorem d_BC_isGood_39 : decode prog_1_method_22_code 39 = .ok (.iconst 0, 1) := by decide +kernel
theorem d_BC_isGood_40 : decode prog_1_method_22_code 40 = .ok (.ireturn, 1) := by decide +kernel
theorem d_BC_isGood_41 : decode prog_1_method_22_code 41 = .ok (.aload_n 0, 1) := by decide +kernel
theorem d_BC_isGood_42 : decode prog_1_method_22_code 42 = .ok (.getfield 26, 3) := by decide +kernel
theorem d_BC_isGood_45 : decode prog_1_method_22_code 45 = .ok (.aload_n 0, 1) := by decide +kernel
theorem d_BC_isGood_46 : decode prog_1_method_22_code 46 = .ok (.getfield 47, 3) := by decide +kernel
theorem d_BC_isGood_49 : decode prog_1_method_22_code 49 = .ok (.iload_n 2, 1) := by decide +kernel
theorem d_BC_isGood_50 : decode prog_1_method_22_code 50 = .ok (.aload_n 0, 1) := by decide +kernel
theorem d_BC_isGood_51 : decode prog_1_method_22_code 51 = .ok (.getfield 33, 3) := by decide +kernel
theorem d_BC_isGood_54 : decode prog_1_method_22_code 54 = .ok (.invokevirtual 184, 3) := by decide +kernel
theorem d_BC_isGood_57 : decode prog_1_method_22_code 57 = .ok (.aload_n 0, 1) := by decide +kernel
theorem d_BC_isGood_58 : decode prog_1_method_22_code 58 = .ok (.getfield 26, 3) := by decide +kernel
theorem d_BC_isGood_61 : decode prog_1_method_22_code 61 = .ok (.aload_n 0, 1) := by decide +kernel
theorem d_BC_isGood_62 : decode prog_1_method_22_code 62 = .ok (.getfield 47, 3) := by decide +kernel
theorem d_BC_isGood_65 : decode prog_1_method_22_code 65 = .ok (.invokevirtual 220, 3) := by decide +kernel
theorem d_BC_isGood_68 : decode prog_1_method_22_code 68 = .ok (.ireturn, 1) := by decide +kernel
def y_BC_isGood : MethodName := ⟨"BootChain", "isGood", "(II)Z"⟩
def ws_BC_isGood : List Cond := .code y_BC_isGood prog_1_method_22_code 3 (some .boolean) :: bc_G
def f_BC_isGood_c1 (so : Int32) (sg : Int32) (wl : Int32) (fw : Nat → Int32) (iw : Nat → Int32) (sl : Int32) (ms : Nat → Int32) (sc : Nat → Int32) (ch : Nat → Int32) (cn : Nat → Int32) (hh : Nat → Int32) (u1 : (Nat → Int32) × Int32 × (Nat → Int32) × (Nat → Int32) × (Nat → Int32)) : Int32 × (Nat → Int32) × Int32 × (Nat → Int32) × (Nat → Int32) × (Nat → Int32) × (Nat → Int32) := ((f_IM_bears (f_IM_load so iw wl fw) (u1.1)), (f_IM_load so iw wl fw), (u1.2.1), (u1.2.2.1), (u1.2.2.2.1), (u1.2.2.2.2), (u1.1))
def f_BC_isGood (so : Int32) (sg : Int32) (wl : Int32) (fw : Nat → Int32) (iw : Nat → Int32) (sl : Int32) (ms : Nat → Int32) (sc : Nat → Int32) (ch : Nat → Int32) (cn : Nat → Int32) (hh : Nat → Int32) : Int32 × (Nat → Int32) × Int32 × (Nat → Int32) × (Nat → Int32) × (Nat → Int32) × (Nat → Int32) := if (f_IM_hasFormOf sg (f_IM_load so iw wl fw)) = 0 then ((0 : Int32), (f_IM_load so iw wl fw), sl, ms, sc, ch, hh) else if (cn (sg).toNatClampNeg) ≤ (f_IM_version (f_IM_load so iw wl fw)) then f_BC_isGood_c1 so sg wl fw iw sl ms sc ch cn hh (f_IM_sealInto sg (f_IM_load so iw wl fw) hh sl ms sc ch) else ((0 : Int32), (f_IM_load so iw wl fw), sl, ms, sc, ch, hh)
set_option maxHeartbeats 4000000 in
set_option maxRecDepth 100000 in
theorem c_BC_isGood (l : Launch) (dC : Nat → ClassId) (dI : Nat → Nat → Nat) (cI cJ : ClassId) (h qf qd qi qs qr qc qg qh qfw qiw gm gs gc : Nat) (sz : Nat) (so : Int32) (sg : Int32) (wl : Int32) (fw : Nat → Int32) (iw : Nat → Int32) (sl : Int32) (ms : Nat → Int32) (sc : Nat → Int32) (ch : Nat → Int32) (cn : Nat → Int32) (hh : Nat → Int32) (hso : 0 ≤ so ∧ so < 4) (hsg : sg = 0 ∨ sg = 1) : Met l y_BC_isGood ws_BC_isGood ({ frames := 4, cells := 0, slots := 0, locals := 103 } : Room) (va_Pc [.ref h, .int so, .int sg] (bc_pre (dC, dI) cI cJ [(h, .inr (0, [.ref qf, .ref qd, .ref qi, .ref qs, .ref qr, .ref qc, .ref qg, .ref qh])), (qf, .inr (1, [.ref qfw, .int wl])), (qfw, .inl (cI, 70, .inl fw)), (qi, .inr (3, [.ref qiw])), (qiw, .inl (cI, 16, .inl iw)), (qs, .inr (4, [.ref gm, .ref gs, .ref gc, .int sl])), (gm, .inl (cI, 32, .inl ms)), (gs, .inl (cI, 64, .inl sc)), (gc, .inl (cI, 8, .inl ch)), (qc, .inl (cI, 2, .inl cn)), (qh, .inl (cI, 8, .inl hh))] sz)) (va_Qi (fun (r : Int32) (_ : Unit) => r = (f_BC_isGood so sg wl fw iw sl ms sc ch cn hh).1) (fun _ => bc_post (dC, dI) cI cJ (va_A [(h, .inr (0, [.ref qf, .ref qd, .ref qi, .ref qs, .ref qr, .ref qc, .ref qg, .ref qh])), (qf, .inr (1, [.ref qfw, .int wl])), (qfw, .inl (cI, 70, .inl fw)), (qi, .inr (3, [.ref qiw])), (qiw, .inl (cI, 16, .inl iw)), (qs, .inr (4, [.ref gm, .ref gs, .ref gc, .int sl])), (gm, .inl (cI, 32, .inl ms)), (gs, .inl (cI, 64, .inl sc)), (gc, .inl (cI, 8, .inl ch)), (qc, .inl (cI, 2, .inl cn)), (qh, .inl (cI, 8, .inl hh))] sz) [(h, .inr (0, [.ref qf, .ref qd, .ref qi, .ref qs, .ref qr, .ref qc, .ref qg, .ref qh])), (qf, .inr (1, [.ref qfw, .int wl])), (qfw, .inl (cI, 70, .inl fw)), (qi, .inr (3, [.ref qiw])), (qiw, .inl (cI, 16, .inl (f_BC_isGood so sg wl fw iw sl ms sc ch cn hh).2.1)), (qs, .inr (4, [.ref gm, .ref gs, .ref gc, .int (f_BC_isGood so sg wl fw iw sl ms sc ch cn hh).2.2.1])), (gm, .inl (cI, 32, .inl (f_BC_isGood so sg wl fw iw sl ms sc ch cn hh).2.2.2.1)), (gs, .inl (cI, 64, .inl (f_BC_isGood so sg wl fw iw sl ms sc ch cn hh).2.2.2.2.1)), (gc, .inl (cI, 8, .inl (f_BC_isGood so sg wl fw iw sl ms sc ch cn hh).2.2.2.2.2.1)), (qc, .inl (cI, 2, .inl cn)), (qh, .inl (cI, 8, .inl (f_BC_isGood so sg wl fw iw sl ms sc ch cn hh).2.2.2.2.2.2))]) (va_A [(h, .inr (0, [.ref qf, .ref qd, .ref qi, .ref qs, .ref qr, .ref qc, .ref qg, .ref qh])), (qf, .inr (1, [.ref qfw, .int wl])), (qfw, .inl (cI, 70, .inl fw)), (qi, .inr (3, [.ref qiw])), (qiw, .inl (cI, 16, .inl iw)), (qs, .inr (4, [.ref gm, .ref gs, .ref gc, .int sl])), (gm, .inl (cI, 32, .inl ms)), (gs, .inl (cI, 64, .inl sc)), (gc, .inl (cI, 8, .inl ch)), (qc, .inl (cI, 2, .inl cn)), (qh, .inl (cI, 8, .inl hh))] sz)) 0 0 (va_A [(h, .inr (0, [.ref qf, .ref qd, .ref qi, .ref qs, .ref qr, .ref qc, .ref qg, .ref qh])), (qf, .inr (1, [.ref qfw, .int wl])), (qfw, .inl (cI, 70, .inl fw)), (qi, .inr (3, [.ref qiw])), (qiw, .inl (cI, 16, .inl iw)), (qs, .inr (4, [.ref gm, .ref gs, .ref gc, .int sl])), (gm, .inl (cI, 32, .inl ms)), (gs, .inl (cI, 64, .inl sc)), (gc, .inl (cI, 8, .inl ch)), (qc, .inl (cI, 2, .inl cn)), (qh, .inl (cI, 8, .inl hh))] sz) := by
  refine Met.ofW (cc := prog_1_method_22_code) (maxL := 3) (ret := (some .boolean)) (by decide) rfl ?_
  intro p e s m args below meth c s₁ B hml hv
  obtain ⟨rfl, hsz, hP, hK, hD0, hE⟩ := hv
  have hx := B.exec
  have hb := B.bytes
  have hr := B.returns
  have hts : ∀ w ∈ bc_G, w.before ([.ref h, .int so, .int sg] : List Value).toArray s = true := fun w h => atoms_spec (ws := ws_BC_isGood) B.pre w (List.mem_cons_of_mem _ h)
  have hown : s.vm.findClass "BootChain" = some m.cls := findClass_of_methodNamed B.named
  have hlocks := B.notSynchronized
  subst hsz
  have hD := hD0.self (sz := s.heap.size)
  generalize hAe : va_A [(h, .inr (0, [.ref qf, .ref qd, .ref qi, .ref qs, .ref qr, .ref qc, .ref qg, .ref qh])), (qf, .inr (1, [.ref qfw, .int wl])), (qfw, .inl (cI, 70, .inl fw)), (qi, .inr (3, [.ref qiw])), (qiw, .inl (cI, 16, .inl iw)), (qs, .inr (4, [.ref gm, .ref gs, .ref gc, .int sl])), (gm, .inl (cI, 32, .inl ms)), (gs, .inl (cI, 64, .inl sc)), (gc, .inl (cI, 8, .inl ch)), (qc, .inl (cI, 2, .inl cn)), (qh, .inl (cI, 8, .inl hh))] s.heap.size = A at hD hE ⊢
  have hA : ∀ q : Nat, s.heap.size ≤ q → A q := fun q h => by rw [← hAe]; exact Or.inr h
  have hS : va_S A s.heap s.heap [] := va_S.rf
  have hl := lv_entry ([.ref h, .int so, .int sg]) (n := 3) (Nat.le_of_ble_eq_true rfl)
  rw [lg_entry_eq]
  generalize (lg_sl ([.ref h, .int so, .int sg]) ++ List.replicate (3 - (lg_sl ([.ref h, .int so, .int sg])).length) Slot.unset).toArray = ls at hl ⊢
  have hl : lv_has ls 3 [(0, .ref h), (1, .int so), (2, .int sg)] := hl
  refine lv_aload_n hx hb d_BC_isGood_0 rfl (lv_at hl 0 rfl) ?_
  refine va_get (D := (dC, dI)) (ci := 0) (v := .ref qi) (C := R_BC) (T := F_BC) (N := 8) hx hb hts in_BC hown hK hP 0 rfl rfl 2 (by decide) (hts _ gw_67) (fun _ h9 => h9) rfl d_BC_isGood_1 ?_
  refine lv_aload_n hx hb d_BC_isGood_4 rfl (lv_at hl 0 rfl) ?_
  refine va_get (D := (dC, dI)) (ci := 0) (v := .ref qf) (C := R_BC) (T := F_BC) (N := 8) hx hb hts in_BC hown hK hP 0 rfl rfl 0 (by decide) (hts _ gw_65) (fun _ h9 => h9) rfl d_BC_isGood_5 ?_
  refine lv_iload_n hx hb d_BC_isGood_8 rfl (lv_at hl 1 rfl) ?_
  have hPc := hP.sub (ws' := [(qi, .inr (3, [.ref qiw])), (qiw, .inl (cI, 16, .inl iw)), (qf, .inr (1, [.ref qfw, .int wl])), (qfw, .inl (cI, 70, .inl fw))]) [3, 4, 1, 2] rfl
  have hDc := hD.sub (ws' := [(qi, .inr (3, [.ref qiw])), (qiw, .inl (cI, 16, .inl iw)), (qf, .inr (1, [.ref qfw, .int wl])), (qfw, .inl (cI, 70, .inl fw))]) [3, 4, 1, 2] (by decide) rfl
  have hFc := va_free (wc := [(qi, .inr (3, [.ref qiw])), (qiw, .inl (cI, 16, .inl iw)), (qf, .inr (1, [.ref qfw, .int wl])), (qfw, .inl (cI, 70, .inl fw))]) hD hS hA [3, 4, 1, 2] rfl
  refine va_callv (va_runV (As := [.ref qf, .int so]) (rest := []) ⟨hx, hb, hml, hown, hts⟩ (c_IM_load l dC dI cI cJ qi qf qiw qfw _ so iw wl fw hso) ⟨callB_of 2 hts (bc_good gw_316) rfl rfl rfl (hts _ gw_4) (hts _ gw_313) (by decide +kernel) ⟨Nat.le_of_ble_eq_true rfl, Nat.le_of_ble_eq_true rfl⟩, (hts _ gw_314), (hts _ gw_315)⟩ ⟨bc_blind, va_recv (q0 := 3) hK hP (q := (R_IM, F_IM, 1)) rfl rfl, fun U hU hW => ⟨rfl, bc_give hPc hDc hK hE hS hFc U hU hW⟩⟩ rfl rfl hl.1 rfl (lv_room (Nat.le_of_ble_eq_true rfl)) d_BC_isGood_9 ⟨Nat.le_of_ble_eq_true rfl, Nat.le_of_ble_eq_true rfl⟩) hS (fun q _ h => hFc q h) hFc (fun u t H9 locs ht hvm hp hB hz1 hk1 hS => ?_)
  obtain ⟨hP, hD⟩ := va_join (wr := [(h, .inr (0, [.ref qf, .ref qd, .ref qi, .ref qs, .ref qr, .ref qc, .ref qg, .ref qh])), (qs, .inr (4, [.ref gm, .ref gs, .ref gc, .int sl])), (gm, .inl (cI, 32, .inl ms)), (gs, .inl (cI, 64, .inl sc)), (gc, .inl (cI, 8, .inl ch)), (qc, .inl (cI, 2, .inl cn)), (qh, .inl (cI, 8, .inl hh))]) (w1 := [(qi, .inr (3, [.ref qiw])), (qiw, .inl (cI, 16, .inl (f_IM_load so iw wl fw))), (qf, .inr (1, [.ref qfw, .int wl])), (qfw, .inl (cI, 70, .inl fw))]) hP hD [3, 4, 1, 2] [0, 5, 6, 7, 8, 9, 10] rfl rfl (by decide) (by decide) hk1 hFc (ht ▸ hB.1) hB.2.2
  have hP := hP.sub (ws' := [(h, .inr (0, [.ref qf, .ref qd, .ref qi, .ref qs, .ref qr, .ref qc, .ref qg, .ref qh])), (qf, .inr (1, [.ref qfw, .int wl])), (qfw, .inl (cI, 70, .inl fw)), (qi, .inr (3, [.ref qiw])), (qiw, .inl (cI, 16, .inl (f_IM_load so iw wl fw))), (qs, .inr (4, [.ref gm, .ref gs, .ref gc, .int sl])), (gm, .inl (cI, 32, .inl ms)), (gs, .inl (cI, 64, .inl sc)), (gc, .inl (cI, 8, .inl ch)), (qc, .inl (cI, 2, .inl cn)), (qh, .inl (cI, 8, .inl hh))]) [0, 9, 10, 7, 8, 1, 2, 3, 4, 5, 6] rfl
  have hD := hD.sub (ws' := [(h, .inr (0, [.ref qf, .ref qd, .ref qi, .ref qs, .ref qr, .ref qc, .ref qg, .ref qh])), (qf, .inr (1, [.ref qfw, .int wl])), (qfw, .inl (cI, 70, .inl fw)), (qi, .inr (3, [.ref qiw])), (qiw, .inl (cI, 16, .inl (f_IM_load so iw wl fw))), (qs, .inr (4, [.ref gm, .ref gs, .ref gc, .int sl])), (gm, .inl (cI, 32, .inl ms)), (gs, .inl (cI, 64, .inl sc)), (gc, .inl (cI, 8, .inl ch)), (qc, .inl (cI, 2, .inl cn)), (qh, .inl (cI, 8, .inl hh))]) [0, 9, 10, 7, 8, 1, 2, 3, 4, 5, 6] (by decide) rfl
  generalize H9 = H at hP hS ⊢
  refine lv_aload_n hx hb d_BC_isGood_12 rfl (lv_at hl 0 rfl) ?_
  refine va_get (D := (dC, dI)) (ci := 0) (v := .ref qi) (C := R_BC) (T := F_BC) (N := 8) hx hb hts in_BC hown hK hP 0 rfl rfl 2 (by decide) (hts _ gw_67) (fun _ h9 => h9) rfl d_BC_isGood_13 ?_
  refine lv_iload_n hx hb d_BC_isGood_16 rfl (lv_at hl 2 rfl) ?_
  have hPc := hP.sub (ws' := [(qi, .inr (3, [.ref qiw])), (qiw, .inl (cI, 16, .inl (f_IM_load so iw wl fw)))]) [3, 4] rfl
  have hDc := hD.sub (ws' := [(qi, .inr (3, [.ref qiw])), (qiw, .inl (cI, 16, .inl (f_IM_load so iw wl fw)))]) [3, 4] (by decide) rfl
  have hFc := va_free (wc := [(qi, .inr (3, [.ref qiw])), (qiw, .inl (cI, 16, .inl (f_IM_load so iw wl fw)))]) hD hS hA [3, 4] rfl
  refine va_calli (va_runV (As := [.int sg]) (rest := []) ⟨hx, hb, hml, hown, hts⟩ (c_IM_hasFormOf l dC dI cI cJ qi qiw _ sg (f_IM_load so iw wl fw)) ⟨callB_of 1 hts (bc_good gw_321) rfl rfl rfl (hts _ gw_4) (hts _ gw_318) (by decide +kernel) ⟨Nat.le_of_ble_eq_true rfl, Nat.le_of_ble_eq_true rfl⟩, (hts _ gw_319), (hts _ gw_320)⟩ ⟨bc_blind, va_recv (q0 := 3) hK hP (q := (R_IM, F_IM, 1)) rfl rfl, fun U hU hW => ⟨rfl, bc_give hPc hDc hK hE hS hFc U hU hW⟩⟩ rfl rfl hl.1 rfl (lv_room (Nat.le_of_ble_eq_true rfl)) d_BC_isGood_17 ⟨Nat.le_of_ble_eq_true rfl, Nat.le_of_ble_eq_true rfl⟩) hS (fun q _ h => hFc q h) hFc (fun r u t H9 locs ht hvm hp hB hz1 hk1 hS => ?_)
  subst hp
  obtain ⟨hP, hD⟩ := va_join (wr := [(h, .inr (0, [.ref qf, .ref qd, .ref qi, .ref qs, .ref qr, .ref qc, .ref qg, .ref qh])), (qf, .inr (1, [.ref qfw, .int wl])), (qfw, .inl (cI, 70, .inl fw)), (qs, .inr (4, [.ref gm, .ref gs, .ref gc, .int sl])), (gm, .inl (cI, 32, .inl ms)), (gs, .inl (cI, 64, .inl sc)), (gc, .inl (cI, 8, .inl ch)), (qc, .inl (cI, 2, .inl cn)), (qh, .inl (cI, 8, .inl hh))]) (w1 := [(qi, .inr (3, [.ref qiw])), (qiw, .inl (cI, 16, .inl (f_IM_load so iw wl fw)))]) hP hD [3, 4] [0, 1, 2, 5, 6, 7, 8, 9, 10] rfl rfl (by decide) (by decide) hk1 hFc (ht ▸ hB.1) hB.2.2
  have hP := hP.sub (ws' := [(h, .inr (0, [.ref qf, .ref qd, .ref qi, .ref qs, .ref qr, .ref qc, .ref qg, .ref qh])), (qf, .inr (1, [.ref qfw, .int wl])), (qfw, .inl (cI, 70, .inl fw)), (qi, .inr (3, [.ref qiw])), (qiw, .inl (cI, 16, .inl (f_IM_load so iw wl fw))), (qs, .inr (4, [.ref gm, .ref gs, .ref gc, .int sl])), (gm, .inl (cI, 32, .inl ms)), (gs, .inl (cI, 64, .inl sc)), (gc, .inl (cI, 8, .inl ch)), (qc, .inl (cI, 2, .inl cn)), (qh, .inl (cI, 8, .inl hh))]) [0, 1, 2, 9, 10, 3, 4, 5, 6, 7, 8] rfl
  have hD := hD.sub (ws' := [(h, .inr (0, [.ref qf, .ref qd, .ref qi, .ref qs, .ref qr, .ref qc, .ref qg, .ref qh])), (qf, .inr (1, [.ref qfw, .int wl])), (qfw, .inl (cI, 70, .inl fw)), (qi, .inr (3, [.ref qiw])), (qiw, .inl (cI, 16, .inl (f_IM_load so iw wl fw))), (qs, .inr (4, [.ref gm, .ref gs, .ref gc, .int sl])), (gm, .inl (cI, 32, .inl ms)), (gs, .inl (cI, 64, .inl sc)), (gc, .inl (cI, 8, .inl ch)), (qc, .inl (cI, 2, .inl cn)), (qh, .inl (cI, 8, .inl hh))]) [0, 1, 2, 9, 10, 3, 4, 5, 6, 7, 8] (by decide) rfl
  generalize H9 = H at hP hS ⊢
  refine lv_if_eq (tgt := 39) hx hb d_BC_isGood_20 (by decide) (fun h3 => ?_) (fun h3 => ?_)
  · refine lv_iconst (v := 0) hx hb d_BC_isGood_39 (by decide) ?_
    have e0 : (f_BC_isGood so sg wl fw iw sl ms sc ch cn hh) = ((0 : Int32), (f_IM_load so iw wl fw), sl, ms, sc, ch, hh) := by rw [f_BC_isGood, if_pos h3]
    rw [e0]
    exact W.zret (v := (0 : Int32)) (ty := .boolean) hx hb hr (rfl) (fun t ht hW => ⟨⟨(0 : Int32), (), rfl, rfl, by rw [ht]; exact hP, va_K.moved hW.alike hK, hD⟩, hS.F ht⟩) hS.2.2 d_BC_isGood_40
  · refine lv_aload_n hx hb d_BC_isGood_23 rfl (lv_at hl 0 rfl) ?_
    refine va_get (D := (dC, dI)) (ci := 0) (v := .ref qi) (C := R_BC) (T := F_BC) (N := 8) hx hb hts in_BC hown hK hP 0 rfl rfl 2 (by decide) (hts _ gw_67) (fun _ h9 => h9) rfl d_BC_isGood_24 ?_
    have hPc := hP.sub (ws' := [(qi, .inr (3, [.ref qiw])), (qiw, .inl (cI, 16, .inl (f_IM_load so iw wl fw)))]) [3, 4] rfl
    have hDc := hD.sub (ws' := [(qi, .inr (3, [.ref qiw])), (qiw, .inl (cI, 16, .inl (f_IM_load so iw wl fw)))]) [3, 4] (by decide) rfl
    have hFc := va_free (wc := [(qi, .inr (3, [.ref qiw])), (qiw, .inl (cI, 16, .inl (f_IM_load so iw wl fw)))]) hD hS hA [3, 4] rfl
    refine va_calli (va_runV (As := []) (rest := []) ⟨hx, hb, hml, hown, hts⟩ (c_IM_version l dC dI cI cJ qi qiw _ (f_IM_load so iw wl fw)) ⟨callB_of 0 hts (bc_good gw_328) rfl rfl rfl (hts _ gw_4) (hts _ gw_325) (by decide +kernel) ⟨Nat.le_of_ble_eq_true rfl, Nat.le_of_ble_eq_true rfl⟩, (hts _ gw_326), (hts _ gw_327)⟩ ⟨bc_blind, va_recv (q0 := 3) hK hP (q := (R_IM, F_IM, 1)) rfl rfl, fun U hU hW => ⟨rfl, bc_give hPc hDc hK hE hS hFc U hU hW⟩⟩ rfl rfl hl.1 rfl (lv_room (Nat.le_of_ble_eq_true rfl)) d_BC_isGood_27 ⟨Nat.le_of_ble_eq_true rfl, Nat.le_of_ble_eq_true rfl⟩) hS (fun q _ h => hFc q h) hFc (fun r u t H9 locs ht hvm hp hB hz1 hk1 hS => ?_)
    subst hp
    obtain ⟨hP, hD⟩ := va_join (wr := [(h, .inr (0, [.ref qf, .ref qd, .ref qi, .ref qs, .ref qr, .ref qc, .ref qg, .ref qh])), (qf, .inr (1, [.ref qfw, .int wl])), (qfw, .inl (cI, 70, .inl fw)), (qs, .inr (4, [.ref gm, .ref gs, .ref gc, .int sl])), (gm, .inl (cI, 32, .inl ms)), (gs, .inl (cI, 64, .inl sc)), (gc, .inl (cI, 8, .inl ch)), (qc, .inl (cI, 2, .inl cn)), (qh, .inl (cI, 8, .inl hh))]) (w1 := [(qi, .inr (3, [.ref qiw])), (qiw, .inl (cI, 16, .inl (f_IM_load so iw wl fw)))]) hP hD [3, 4] [0, 1, 2, 5, 6, 7, 8, 9, 10] rfl rfl (by decide) (by decide) hk1 hFc (ht ▸ hB.1) hB.2.2
    have hP := hP.sub (ws' := [(h, .inr (0, [.ref qf, .ref qd, .ref qi, .ref qs, .ref qr, .ref qc, .ref qg, .ref qh])), (qf, .inr (1, [.ref qfw, .int wl])), (qfw, .inl (cI, 70, .inl fw)), (qi, .inr (3, [.ref qiw])), (qiw, .inl (cI, 16, .inl (f_IM_load so iw wl fw))), (qs, .inr (4, [.ref gm, .ref gs, .ref gc, .int sl])), (gm, .inl (cI, 32, .inl ms)), (gs, .inl (cI, 64, .inl sc)), (gc, .inl (cI, 8, .inl ch)), (qc, .inl (cI, 2, .inl cn)), (qh, .inl (cI, 8, .inl hh))]) [0, 1, 2, 9, 10, 3, 4, 5, 6, 7, 8] rfl
    have hD := hD.sub (ws' := [(h, .inr (0, [.ref qf, .ref qd, .ref qi, .ref qs, .ref qr, .ref qc, .ref qg, .ref qh])), (qf, .inr (1, [.ref qfw, .int wl])), (qfw, .inl (cI, 70, .inl fw)), (qi, .inr (3, [.ref qiw])), (qiw, .inl (cI, 16, .inl (f_IM_load so iw wl fw))), (qs, .inr (4, [.ref gm, .ref gs, .ref gc, .int sl])), (gm, .inl (cI, 32, .inl ms)), (gs, .inl (cI, 64, .inl sc)), (gc, .inl (cI, 8, .inl ch)), (qc, .inl (cI, 2, .inl cn)), (qh, .inl (cI, 8, .inl hh))]) [0, 1, 2, 9, 10, 3, 4, 5, 6, 7, 8] (by decide) rfl
    generalize H9 = H at hP hS ⊢
    refine lv_aload_n hx hb d_BC_isGood_30 rfl (lv_at hl 0 rfl) ?_
    refine va_get (D := (dC, dI)) (ci := 0) (v := .ref qc) (C := R_BC) (T := F_BC) (N := 8) hx hb hts in_BC hown hK hP 0 rfl rfl 5 (by decide) (hts _ gw_70) (fun _ h9 => h9) rfl d_BC_isGood_31 ?_
    refine lv_iload_n hx hb d_BC_isGood_34 rfl (lv_at hl 2 rfl) ?_
    refine va_iald hx hb hK hP 9 0 rfl rfl (ix_st hsg) d_BC_isGood_35 ?_
    refine lv_icmp_ge (tgt := 41) hx hb d_BC_isGood_36 (by decide) (fun h4 => ?_) (fun h4 => ?_)
    · refine lv_aload_n hx hb d_BC_isGood_41 rfl (lv_at hl 0 rfl) ?_
      refine va_get (D := (dC, dI)) (ci := 0) (v := .ref qi) (C := R_BC) (T := F_BC) (N := 8) hx hb hts in_BC hown hK hP 0 rfl rfl 2 (by decide) (hts _ gw_67) (fun _ h9 => h9) rfl d_BC_isGood_42 ?_
      refine lv_aload_n hx hb d_BC_isGood_45 rfl (lv_at hl 0 rfl) ?_
      refine va_get (D := (dC, dI)) (ci := 0) (v := .ref qh) (C := R_BC) (T := F_BC) (N := 8) hx hb hts in_BC hown hK hP 0 rfl rfl 7 (by decide) (hts _ gw_72) (fun _ h9 => h9) rfl d_BC_isGood_46 ?_
      refine lv_iload_n hx hb d_BC_isGood_49 rfl (lv_at hl 2 rfl) ?_
      refine lv_aload_n hx hb d_BC_isGood_50 rfl (lv_at hl 0 rfl) ?_
      refine va_get (D := (dC, dI)) (ci := 0) (v := .ref qs) (C := R_BC) (T := F_BC) (N := 8) hx hb hts in_BC hown hK hP 0 rfl rfl 3 (by decide) (hts _ gw_68) (fun _ h9 => h9) rfl d_BC_isGood_51 ?_
      have hPc := hP.sub (ws' := [(qi, .inr (3, [.ref qiw])), (qiw, .inl (cI, 16, .inl (f_IM_load so iw wl fw))), (qh, .inl (cI, 8, .inl hh)), (qs, .inr (4, [.ref gm, .ref gs, .ref gc, .int sl])), (gm, .inl (cI, 32, .inl ms)), (gs, .inl (cI, 64, .inl sc)), (gc, .inl (cI, 8, .inl ch))]) [3, 4, 10, 5, 6, 7, 8] rfl
      have hDc := hD.sub (ws' := [(qi, .inr (3, [.ref qiw])), (qiw, .inl (cI, 16, .inl (f_IM_load so iw wl fw))), (qh, .inl (cI, 8, .inl hh)), (qs, .inr (4, [.ref gm, .ref gs, .ref gc, .int sl])), (gm, .inl (cI, 32, .inl ms)), (gs, .inl (cI, 64, .inl sc)), (gc, .inl (cI, 8, .inl ch))]) [3, 4, 10, 5, 6, 7, 8] (by decide) rfl
      have hFc := va_free (wc := [(qi, .inr (3, [.ref qiw])), (qiw, .inl (cI, 16, .inl (f_IM_load so iw wl fw))), (qh, .inl (cI, 8, .inl hh)), (qs, .inr (4, [.ref gm, .ref gs, .ref gc, .int sl])), (gm, .inl (cI, 32, .inl ms)), (gs, .inl (cI, 64, .inl sc)), (gc, .inl (cI, 8, .inl ch))]) hD hS hA [3, 4, 10, 5, 6, 7, 8] rfl
      refine va_callv (va_runV (As := [.ref qh, .int sg, .ref qs]) (rest := []) ⟨hx, hb, hml, hown, hts⟩ (c_IM_sealInto l dC dI cI cJ qi qh qs qiw gm gs gc _ sg (f_IM_load so iw wl fw) hh sl ms sc ch) ⟨callB_of 3 hts (bc_good gw_209) rfl rfl rfl (hts _ gw_4) (hts _ gw_206) (by decide +kernel) ⟨Nat.le_of_ble_eq_true rfl, Nat.le_of_ble_eq_true rfl⟩, (hts _ gw_207), (hts _ gw_208)⟩ ⟨bc_blind, va_recv (q0 := 3) hK hP (q := (R_IM, F_IM, 1)) rfl rfl, fun U hU hW => ⟨rfl, bc_give hPc hDc hK hE hS hFc U hU hW⟩⟩ rfl rfl hl.1 rfl (lv_room (Nat.le_of_ble_eq_true rfl)) d_BC_isGood_54 ⟨Nat.le_of_ble_eq_true rfl, Nat.le_of_ble_eq_true rfl⟩) hS (fun q _ h => hFc q h) hFc (fun u t H9 locs ht hvm hp hB hz1 hk1 hS => ?_)
      obtain ⟨hP, hD⟩ := va_join (wr := [(h, .inr (0, [.ref qf, .ref qd, .ref qi, .ref qs, .ref qr, .ref qc, .ref qg, .ref qh])), (qf, .inr (1, [.ref qfw, .int wl])), (qfw, .inl (cI, 70, .inl fw)), (qc, .inl (cI, 2, .inl cn))]) (w1 := [(qi, .inr (3, [.ref qiw])), (qiw, .inl (cI, 16, .inl (f_IM_load so iw wl fw))), (qh, .inl (cI, 8, .inl ((f_IM_sealInto sg (f_IM_load so iw wl fw) hh sl ms sc ch).1))), (qs, .inr (4, [.ref gm, .ref gs, .ref gc, .int ((f_IM_sealInto sg (f_IM_load so iw wl fw) hh sl ms sc ch).2.1)])), (gm, .inl (cI, 32, .inl ((f_IM_sealInto sg (f_IM_load so iw wl fw) hh sl ms sc ch).2.2.1))), (gs, .inl (cI, 64, .inl ((f_IM_sealInto sg (f_IM_load so iw wl fw) hh sl ms sc ch).2.2.2.1))), (gc, .inl (cI, 8, .inl ((f_IM_sealInto sg (f_IM_load so iw wl fw) hh sl ms sc ch).2.2.2.2)))]) hP hD [3, 4, 10, 5, 6, 7, 8] [0, 1, 2, 9] rfl rfl (by decide) (by decide) hk1 hFc (ht ▸ hB.1) hB.2.2
      have hP := hP.sub (ws' := [(h, .inr (0, [.ref qf, .ref qd, .ref qi, .ref qs, .ref qr, .ref qc, .ref qg, .ref qh])), (qf, .inr (1, [.ref qfw, .int wl])), (qfw, .inl (cI, 70, .inl fw)), (qi, .inr (3, [.ref qiw])), (qiw, .inl (cI, 16, .inl (f_IM_load so iw wl fw))), (qs, .inr (4, [.ref gm, .ref gs, .ref gc, .int ((f_IM_sealInto sg (f_IM_load so iw wl fw) hh sl ms sc ch).2.1)])), (gm, .inl (cI, 32, .inl ((f_IM_sealInto sg (f_IM_load so iw wl fw) hh sl ms sc ch).2.2.1))), (gs, .inl (cI, 64, .inl ((f_IM_sealInto sg (f_IM_load so iw wl fw) hh sl ms sc ch).2.2.2.1))), (gc, .inl (cI, 8, .inl ((f_IM_sealInto sg (f_IM_load so iw wl fw) hh sl ms sc ch).2.2.2.2))), (qc, .inl (cI, 2, .inl cn)), (qh, .inl (cI, 8, .inl ((f_IM_sealInto sg (f_IM_load so iw wl fw) hh sl ms sc ch).1)))]) [0, 1, 2, 4, 5, 7, 8, 9, 10, 3, 6] rfl
      have hD := hD.sub (ws' := [(h, .inr (0, [.ref qf, .ref qd, .ref qi, .ref qs, .ref qr, .ref qc, .ref qg, .ref qh])), (qf, .inr (1, [.ref qfw, .int wl])), (qfw, .inl (cI, 70, .inl fw)), (qi, .inr (3, [.ref qiw])), (qiw, .inl (cI, 16, .inl (f_IM_load so iw wl fw))), (qs, .inr (4, [.ref gm, .ref gs, .ref gc, .int ((f_IM_sealInto sg (f_IM_load so iw wl fw) hh sl ms sc ch).2.1)])), (gm, .inl (cI, 32, .inl ((f_IM_sealInto sg (f_IM_load so iw wl fw) hh sl ms sc ch).2.2.1))), (gs, .inl (cI, 64, .inl ((f_IM_sealInto sg (f_IM_load so iw wl fw) hh sl ms sc ch).2.2.2.1))), (gc, .inl (cI, 8, .inl ((f_IM_sealInto sg (f_IM_load so iw wl fw) hh sl ms sc ch).2.2.2.2))), (qc, .inl (cI, 2, .inl cn)), (qh, .inl (cI, 8, .inl ((f_IM_sealInto sg (f_IM_load so iw wl fw) hh sl ms sc ch).1)))]) [0, 1, 2, 4, 5, 7, 8, 9, 10, 3, 6] (by decide) rfl
      generalize H9 = H at hP hS ⊢
      have e0 : (f_BC_isGood so sg wl fw iw sl ms sc ch cn hh) = f_BC_isGood_c1 so sg wl fw iw sl ms sc ch cn hh (f_IM_sealInto sg (f_IM_load so iw wl fw) hh sl ms sc ch) := by rw [f_BC_isGood, if_neg h3, if_pos h4]
      rw [e0]
      generalize hu1 : (f_IM_sealInto sg (f_IM_load so iw wl fw) hh sl ms sc ch) = u1 at hP hD ⊢
      have hP : va_P (dC, dI) classes [(h, .inr (0, [.ref qf, .ref qd, .ref qi, .ref qs, .ref qr, .ref qc, .ref qg, .ref qh])), (qf, .inr (1, [.ref qfw, .int wl])), (qfw, .inl (cI, 70, .inl fw)), (qi, .inr (3, [.ref qiw])), (qiw, .inl (cI, 16, .inl (f_IM_load so iw wl fw))), (qs, .inr (4, [.ref gm, .ref gs, .ref gc, .int (u1.2.1)])), (gm, .inl (cI, 32, .inl (u1.2.2.1))), (gs, .inl (cI, 64, .inl (u1.2.2.2.1))), (gc, .inl (cI, 8, .inl (u1.2.2.2.2))), (qc, .inl (cI, 2, .inl cn)), (qh, .inl (cI, 8, .inl (u1.1)))] H := hP
      have hD : va_D A [(h, .inr (0, [.ref qf, .ref qd, .ref qi, .ref qs, .ref qr, .ref qc, .ref qg, .ref qh])), (qf, .inr (1, [.ref qfw, .int wl])), (qfw, .inl (cI, 70, .inl fw)), (qi, .inr (3, [.ref qiw])), (qiw, .inl (cI, 16, .inl (f_IM_load so iw wl fw))), (qs, .inr (4, [.ref gm, .ref gs, .ref gc, .int (u1.2.1)])), (gm, .inl (cI, 32, .inl (u1.2.2.1))), (gs, .inl (cI, 64, .inl (u1.2.2.2.1))), (gc, .inl (cI, 8, .inl (u1.2.2.2.2))), (qc, .inl (cI, 2, .inl cn)), (qh, .inl (cI, 8, .inl (u1.1)))] := hD
      refine lv_aload_n hx hb d_BC_isGood_57 rfl (lv_at hl 0 rfl) ?_
      refine va_get (D := (dC, dI)) (ci := 0) (v := .ref qi) (C := R_BC) (T := F_BC) (N := 8) hx hb hts in_BC hown hK hP 0 rfl rfl 2 (by decide) (hts _ gw_67) (fun _ h9 => h9) rfl d_BC_isGood_58 ?_
      refine lv_aload_n hx hb d_BC_isGood_61 rfl (lv_at hl 0 rfl) ?_
      refine va_get (D := (dC, dI)) (ci := 0) (v := .ref qh) (C := R_BC) (T := F_BC) (N := 8) hx hb hts in_BC hown hK hP 0 rfl rfl 7 (by decide) (hts _ gw_72) (fun _ h9 => h9) rfl d_BC_isGood_62 ?_
      have hPc := hP.sub (ws' := [(qi, .inr (3, [.ref qiw])), (qiw, .inl (cI, 16, .inl (f_IM_load so iw wl fw))), (qh, .inl (cI, 8, .inl (u1.1)))]) [3, 4, 10] rfl
      have hDc := hD.sub (ws' := [(qi, .inr (3, [.ref qiw])), (qiw, .inl (cI, 16, .inl (f_IM_load so iw wl fw))), (qh, .inl (cI, 8, .inl (u1.1)))]) [3, 4, 10] (by decide) rfl
      have hFc := va_free (wc := [(qi, .inr (3, [.ref qiw])), (qiw, .inl (cI, 16, .inl (f_IM_load so iw wl fw))), (qh, .inl (cI, 8, .inl (u1.1)))]) hD hS hA [3, 4, 10] rfl
      refine va_calli (va_runV (As := [.ref qh]) (rest := []) ⟨hx, hb, hml, hown, hts⟩ (c_IM_bears l dC dI cI cJ qi qh qiw _ (f_IM_load so iw wl fw) (u1.1)) ⟨callB_of 1 hts (bc_good gw_335) rfl rfl rfl (hts _ gw_4) (hts _ gw_332) (by decide +kernel) ⟨Nat.le_of_ble_eq_true rfl, Nat.le_of_ble_eq_true rfl⟩, (hts _ gw_333), (hts _ gw_334)⟩ ⟨bc_blind, va_recv (q0 := 3) hK hP (q := (R_IM, F_IM, 1)) rfl rfl, fun U hU hW => ⟨rfl, bc_give hPc hDc hK hE hS hFc U hU hW⟩⟩ rfl rfl hl.1 rfl (lv_room (Nat.le_of_ble_eq_true rfl)) d_BC_isGood_65 ⟨Nat.le_of_ble_eq_true rfl, Nat.le_of_ble_eq_true rfl⟩) hS (fun q _ h => hFc q h) hFc (fun r u t H9 locs ht hvm hp hB hz1 hk1 hS => ?_)
      subst hp
      obtain ⟨hP, hD⟩ := va_join (wr := [(h, .inr (0, [.ref qf, .ref qd, .ref qi, .ref qs, .ref qr, .ref qc, .ref qg, .ref qh])), (qf, .inr (1, [.ref qfw, .int wl])), (qfw, .inl (cI, 70, .inl fw)), (qs, .inr (4, [.ref gm, .ref gs, .ref gc, .int (u1.2.1)])), (gm, .inl (cI, 32, .inl (u1.2.2.1))), (gs, .inl (cI, 64, .inl (u1.2.2.2.1))), (gc, .inl (cI, 8, .inl (u1.2.2.2.2))), (qc, .inl (cI, 2, .inl cn))]) (w1 := [(qi, .inr (3, [.ref qiw])), (qiw, .inl (cI, 16, .inl (f_IM_load so iw wl fw))), (qh, .inl (cI, 8, .inl (u1.1)))]) hP hD [3, 4, 10] [0, 1, 2, 5, 6, 7, 8, 9] rfl rfl (by decide) (by decide) hk1 hFc (ht ▸ hB.1) hB.2.2
      have hP := hP.sub (ws' := [(h, .inr (0, [.ref qf, .ref qd, .ref qi, .ref qs, .ref qr, .ref qc, .ref qg, .ref qh])), (qf, .inr (1, [.ref qfw, .int wl])), (qfw, .inl (cI, 70, .inl fw)), (qi, .inr (3, [.ref qiw])), (qiw, .inl (cI, 16, .inl (f_IM_load so iw wl fw))), (qs, .inr (4, [.ref gm, .ref gs, .ref gc, .int (u1.2.1)])), (gm, .inl (cI, 32, .inl (u1.2.2.1))), (gs, .inl (cI, 64, .inl (u1.2.2.2.1))), (gc, .inl (cI, 8, .inl (u1.2.2.2.2))), (qc, .inl (cI, 2, .inl cn)), (qh, .inl (cI, 8, .inl (u1.1)))]) [0, 1, 2, 8, 9, 3, 4, 5, 6, 7, 10] rfl
      have hD := hD.sub (ws' := [(h, .inr (0, [.ref qf, .ref qd, .ref qi, .ref qs, .ref qr, .ref qc, .ref qg, .ref qh])), (qf, .inr (1, [.ref qfw, .int wl])), (qfw, .inl (cI, 70, .inl fw)), (qi, .inr (3, [.ref qiw])), (qiw, .inl (cI, 16, .inl (f_IM_load so iw wl fw))), (qs, .inr (4, [.ref gm, .ref gs, .ref gc, .int (u1.2.1)])), (gm, .inl (cI, 32, .inl (u1.2.2.1))), (gs, .inl (cI, 64, .inl (u1.2.2.2.1))), (gc, .inl (cI, 8, .inl (u1.2.2.2.2))), (qc, .inl (cI, 2, .inl cn)), (qh, .inl (cI, 8, .inl (u1.1)))]) [0, 1, 2, 8, 9, 3, 4, 5, 6, 7, 10] (by decide) rfl
      generalize H9 = H at hP hS ⊢
      have e0 : (f_BC_isGood_c1 so sg wl fw iw sl ms sc ch cn hh u1) = ((f_IM_bears (f_IM_load so iw wl fw) (u1.1)), (f_IM_load so iw wl fw), (u1.2.1), (u1.2.2.1), (u1.2.2.2.1), (u1.2.2.2.2), (u1.1)) := by rw [f_BC_isGood_c1]
      rw [e0]
      exact W.zret (v := (f_IM_bears (f_IM_load so iw wl fw) (u1.1))) (ty := .boolean) hx hb hr (z_of (p_bears _ _)) (fun t ht hW => ⟨⟨(f_IM_bears (f_IM_load so iw wl fw) (u1.1)), (), rfl, rfl, by rw [ht]; exact hP, va_K.moved hW.alike hK, hD⟩, hS.F ht⟩) hS.2.2 d_BC_isGood_68
    · refine lv_iconst (v := 0) hx hb d_BC_isGood_39 (by decide) ?_
      have e0 : (f_BC_isGood so sg wl fw iw sl ms sc ch cn hh) = ((0 : Int32), (f_IM_load so iw wl fw), sl, ms, sc, ch, hh) := by rw [f_BC_isGood, if_neg h3, if_neg h4]
      rw [e0]
      exact W.zret (v := (0 : Int32)) (ty := .boolean) hx hb hr (rfl) (fun t ht hW => ⟨⟨(0 : Int32), (), rfl, rfl, by rw [ht]; exact hP, va_K.moved hW.alike hK, hD⟩, hS.F ht⟩) hS.2.2 d_BC_isGood_40
-- BC_slotOnTrial
theorem d_BC_slotOnTrial_0 : decode prog_1_method_20_code 0 = .ok (.aload_n 0, 1) := by decide +kernel
theorem d_BC_slotOnTrial_1 : decode prog_1_method_20_code 1 = .ok (.getfield 10, 3) := by decide +kernel
theorem d_BC_slotOnTrial_4 : decode prog_1_method_20_code 4 = .ok (.invokevirtual 82, 3) := by decide +kernel
theorem d_BC_slotOnTrial_7 : decode prog_1_method_20_code 7 = .ok (.istore_n 2, 1) := by decide +kernel
theorem d_BC_slotOnTrial_8 : decode prog_1_method_20_code 8 = .ok (.iload_n 2, 1) := by decide +kernel
theorem d_BC_slotOnTrial_9 : decode prog_1_method_20_code 9 = .ok (.iload_n 1, 1) := by decide +kernel
theorem d_BC_slotOnTrial_10 : decode prog_1_method_20_code 10 = .ok (.invokestatic 195, 3) := by decide +kernel
theorem d_BC_slotOnTrial_13 : decode prog_1_method_20_code 13 = .ok (.ifCond .ne 5, 3) := by decide +kernel
theorem d_BC_slotOnTrial_16 : decode prog_1_method_20_code 16 = .ok (.iconst (-1), 1) := by decide +kernel
theorem d_BC_slotOnTrial_17 : decode prog_1_method_20_code 17 = .ok (.ireturn, 1) := by decide +kernel
theorem d_BC_slotOnTrial_18 : decode prog_1_method_20_code 18 = .ok (.iload_n 2, 1) := by decide +kernel
theorem d_BC_slotOnTrial_19 : decode prog_1_method_20_code 19 = .ok (.iload_n 1, 1) := by decide +kernel
theorem d_BC_slotOnTrial_20 : decode prog_1_method_20_code 20 = .ok (.invokestatic 198, 3) := by decide +kernel
theorem d_BC_slotOnTrial_23 : decode prog_1_method_20_code 23 = .ok (.istore_n 3, 1) := by decide +kernel
theorem d_BC_slotOnTrial_24 : decode prog_1_method_20_code 24 = .ok (.iload_n 3, 1) := by decide +kernel
theorem d_BC_slotOnTrial_25 : decode prog_1_method_20_code 25 = .ok (.ifCond .le 44, 3) := by decide +kernel
theorem d_BC_slotOnTrial_28 : decode prog_1_method_20_code 28 = .ok (.iload_n 2, 1) := by decide +kernel
theorem d_BC_slotOnTrial_29 : decode prog_1_method_20_code 29 = .ok (.iload_n 1, 1) := by decide +kernel
theorem d_BC_slotOnTrial_30 : decode prog_1_method_20_code 30 = .ok (.invokestatic 86, 3) := by decide +kernel
theorem d_BC_slotOnTrial_33 : decode prog_1_method_20_code 33 = .ok (.istore 4, 2) := by decide +kernel
theorem d_BC_slotOnTrial_35 : decode prog_1_method_20_code 35 = .ok (.aload_n 0, 1) := by decide +kernel
theorem d_BC_slotOnTrial_36 : decode prog_1_method_20_code 36 = .ok (.getfield 10, 3) := by decide +kernel
theorem d_BC_slotOnTrial_39 : decode prog_1_method_20_code 39 = .ok (.iload_n 2, 1) := by decide +kernel
theorem d_BC_slotOnTrial_40 : decode prog_1_method_20_code 40 = .ok (.iload_n 1, 1) := by decide +kernel
theorem d_BC_slotOnTrial_41 : decode prog_1_method_20_code 41 = .ok (.iload_n 3, 1) := by decide +kernel
theorem d_BC_slotOnTrial_42 : decode prog_1_method_20_code 42 = .ok (.iconst 1, 1) := by decide +kernel
theorem d_BC_slotOnTrial_43 : decode prog_1_method_20_code 43 = .ok (.isub, 1) := by decide +kernel
theorem d_BC_slotOnTrial_44 : decode prog_1_method_20_code 44 = .ok (.invokestatic 95, 3) := by decide +kernel
theorem d_BC_slotOnTrial_47 : decode prog_1_method_20_code 47 = .ok (.invokevirtual 103, 3) := by decide +kernel
theorem d_BC_slotOnTrial_50 : decode prog_1_method_20_code 50 = .ok (.ifCond .ne 6, 3) := by decide +kernel
theorem d_BC_slotOnTrial_53 : decode prog_1_method_20_code 53 = .ok (.bipush (-2), 2) := by decide +kernel
theorem d_BC_slotOnTrial_55 : decode prog_1_method_20_code 55 = .ok (.ireturn, 1) := by decide +kernel
theorem d_BC_slotOnTrial_56 : decode prog_1_method_20_code 56 = .ok (.aload_n 0, 1) := by decide +kernel
theorem d_BC_slotOnTrial_57 : decode prog_1_method_20_code 57 = .ok (.iload 4, 2) := by decide +kernel
theorem d_BC_slotOnTrial_59 : decode prog_1_method_20_code 59 = .ok (.iload_n 1, 1) := by decide +kernel
theorem d_BC_slotOnTrial_60 : decode prog_1_method_20_code 60 = .ok (.invokevirtual 201, 3) := by decide +kernel
theorem d_BC_slotOnTrial_63 : decode prog_1_method_20_code 63 = .ok (.ifCond .eq 6, 3) := by decide +kernel
theorem d_BC_slotOnTrial_66 : decode prog_1_method_20_code 66 = .ok (.iload 4, 2) := by decide +kernel
theorem d_BC_slotOnTrial_68 : decode prog_1_method_20_code 68 = .ok (.ireturn, 1) := by decide +kernel
theorem d_BC_slotOnTrial_69 : decode prog_1_method_20_code 69 = .ok (.aload_n 0, 1) := by decide +kernel
theorem d_BC_slotOnTrial_70 : decode prog_1_method_20_code 70 = .ok (.getfield 10, 3) := by decide +kernel
theorem d_BC_slotOnTrial_73 : decode prog_1_method_20_code 73 = .ok (.iload_n 2, 1) := by decide +kernel
theorem d_BC_slotOnTrial_74 : decode prog_1_method_20_code 74 = .ok (.iload_n 1, 1) := by decide +kernel
theorem d_BC_slotOnTrial_75 : decode prog_1_method_20_code 75 = .ok (.invokestatic 204, 3) := by decide +kernel
theorem d_BC_slotOnTrial_78 : decode prog_1_method_20_code 78 = .ok (.invokevirtual 103, 3) := by decide +kernel
theorem d_BC_slotOnTrial_81 : decode prog_1_method_20_code 81 = .ok (.ifCond .eq 7, 3) := by decide +kernel
theorem d_BC_slotOnTrial_84 : decode prog_1_method_20_code 84 = .ok (.iconst (-1), 1) := by decide +kernel
theorem d_BC_slotOnTrial_85 : decode prog_1_method_20_code 85 = .ok (.goto 5, 3) := by decide +kernel
theorem d_BC_slotOnTrial_88 : decode prog_1_method_20_code 88 = .ok (.bipush (-2), 2) := by decide +kernel
theorem d_BC_slotOnTrial_90 : decode prog_1_method_20_code 90 = .ok (.ireturn, 1) := by decide +kernel
def y_BC_slotOnTrial : MethodName := ⟨"BootChain", "slotOnTrial", "(I)I"⟩
def ws_BC_slotOnTrial : List Cond := .code y_BC_slotOnTrial prog_1_method_20_code 5 (some .int) :: bc_G
def f_BC_slotOnTrial_c3 (sg : Int32) (wl : Int32) (fw : Nat → Int32) (iw : Nat → Int32) (sl : Int32) (ms : Nat → Int32) (sc : Nat → Int32) (ch : Nat → Int32) (cn : Nat → Int32) (hh : Nat → Int32) (x2 : Int32) (y1_1 : Int32) (y2 : Nat → Int32) (y4 : Nat → Int32) (y5_3 : Int32) (y6 : Nat → Int32) (y7 : Nat → Int32) (y8 : Nat → Int32) (y10 : Nat → Int32) (u3 : Int32 × Int32 × (Nat → Int32)) : Int32 × Int32 × (Nat → Int32) × (Nat → Int32) × Int32 × (Nat → Int32) × (Nat → Int32) × (Nat → Int32) × (Nat → Int32) := if (u3.1) = 0 then ((-2 : Int32), (u3.2.1), (u3.2.2), y4, y5_3, y6, y7, y8, y10) else ((-1 : Int32), (u3.2.1), (u3.2.2), y4, y5_3, y6, y7, y8, y10)
def f_BC_slotOnTrial_j69 (sg : Int32) (wl : Int32) (fw : Nat → Int32) (iw : Nat → Int32) (sl : Int32) (ms : Nat → Int32) (sc : Nat → Int32) (ch : Nat → Int32) (cn : Nat → Int32) (hh : Nat → Int32) (x2 : Int32) (y1_1 : Int32) (y2 : Nat → Int32) (y4 : Nat → Int32) (y5_3 : Int32) (y6 : Nat → Int32) (y7 : Nat → Int32) (y8 : Nat → Int32) (y10 : Nat → Int32) : Int32 × Int32 × (Nat → Int32) × (Nat → Int32) × Int32 × (Nat → Int32) × (Nat → Int32) × (Nat → Int32) × (Nat → Int32) := f_BC_slotOnTrial_c3 sg wl fw iw sl ms sc ch cn hh x2 y1_1 y2 y4 y5_3 y6 y7 y8 y10 (f_FL_writeRecord (f_SB_withoutTrial x2 sg) y1_1 y2)
def f_BC_slotOnTrial_c2 (sg : Int32) (wl : Int32) (fw : Nat → Int32) (iw : Nat → Int32) (sl : Int32) (ms : Nat → Int32) (sc : Nat → Int32) (ch : Nat → Int32) (cn : Nat → Int32) (hh : Nat → Int32) (u1 : Int32 × Int32 × (Nat → Int32)) (u2 : Int32 × (Nat → Int32) × Int32 × (Nat → Int32) × (Nat → Int32) × (Nat → Int32) × (Nat → Int32)) : Int32 × Int32 × (Nat → Int32) × (Nat → Int32) × Int32 × (Nat → Int32) × (Nat → Int32) × (Nat → Int32) × (Nat → Int32) := if (u2.1) = 0 then f_BC_slotOnTrial_j69 sg wl fw iw sl ms sc ch cn hh (f_FL_heldState wl fw) (u1.2.1) (u1.2.2) (u2.2.1) (u2.2.2.1) (u2.2.2.2.1) (u2.2.2.2.2.1) (u2.2.2.2.2.2.1) (u2.2.2.2.2.2.2) else ((f_SB_otherSlot (f_FL_heldState wl fw) sg), (u1.2.1), (u1.2.2), (u2.2.1), (u2.2.2.1), (u2.2.2.2.1), (u2.2.2.2.2.1), (u2.2.2.2.2.2.1), (u2.2.2.2.2.2.2))
def f_BC_slotOnTrial_c1 (sg : Int32) (wl : Int32) (fw : Nat → Int32) (iw : Nat → Int32) (sl : Int32) (ms : Nat → Int32) (sc : Nat → Int32) (ch : Nat → Int32) (cn : Nat → Int32) (hh : Nat → Int32) (u1 : Int32 × Int32 × (Nat → Int32)) : Int32 × Int32 × (Nat → Int32) × (Nat → Int32) × Int32 × (Nat → Int32) × (Nat → Int32) × (Nat → Int32) × (Nat → Int32) := if (u1.1) = 0 then ((-2 : Int32), (u1.2.1), (u1.2.2), iw, sl, ms, sc, ch, hh) else f_BC_slotOnTrial_c2 sg wl fw iw sl ms sc ch cn hh u1 (f_BC_isGood (f_SB_otherSlot (f_FL_heldState wl fw) sg) sg (u1.2.1) (u1.2.2) iw sl ms sc ch cn hh)
def f_BC_slotOnTrial (sg : Int32) (wl : Int32) (fw : Nat → Int32) (iw : Nat → Int32) (sl : Int32) (ms : Nat → Int32) (sc : Nat → Int32) (ch : Nat → Int32) (cn : Nat → Int32) (hh : Nat → Int32) : Int32 × Int32 × (Nat → Int32) × (Nat → Int32) × Int32 × (Nat → Int32) × (Nat → Int32) × (Nat → Int32) × (Nat → Int32) := if (f_SB_onTrial (f_FL_heldState wl fw) sg) = 0 then ((-1 : Int32), wl, fw, iw, sl, ms, sc, ch, hh) else if (f_SB_triesLeft (f_FL_heldState wl fw) sg) ≤ 0 then f_BC_slotOnTrial_j69 sg wl fw iw sl ms sc ch cn hh (f_FL_heldState wl fw) wl fw iw sl ms sc ch hh else f_BC_slotOnTrial_c1 sg wl fw iw sl ms sc ch cn hh (f_FL_writeRecord (f_SB_withTrial (f_FL_heldState wl fw) sg ((f_SB_triesLeft (f_FL_heldState wl fw) sg) - (1 : Int32))) wl fw)
set_option maxHeartbeats 4000000 in
set_option maxRecDepth 100000 in
theorem c_BC_slotOnTrial (l : Launch) (dC : Nat → ClassId) (dI : Nat → Nat → Nat) (cI cJ : ClassId) (h qf qd qi qs qr qc qg qh qfw qiw gm gs gc : Nat) (sz : Nat) (sg : Int32) (wl : Int32) (fw : Nat → Int32) (iw : Nat → Int32) (sl : Int32) (ms : Nat → Int32) (sc : Nat → Int32) (ch : Nat → Int32) (cn : Nat → Int32) (hh : Nat → Int32) (hsg : sg = 0 ∨ sg = 1) : Met l y_BC_slotOnTrial ws_BC_slotOnTrial ({ frames := 5, cells := 0, slots := 0, locals := 125 } : Room) (va_Pc [.ref h, .int sg] (bc_pre (dC, dI) cI cJ [(h, .inr (0, [.ref qf, .ref qd, .ref qi, .ref qs, .ref qr, .ref qc, .ref qg, .ref qh])), (qf, .inr (1, [.ref qfw, .int wl])), (qfw, .inl (cI, 70, .inl fw)), (qi, .inr (3, [.ref qiw])), (qiw, .inl (cI, 16, .inl iw)), (qs, .inr (4, [.ref gm, .ref gs, .ref gc, .int sl])), (gm, .inl (cI, 32, .inl ms)), (gs, .inl (cI, 64, .inl sc)), (gc, .inl (cI, 8, .inl ch)), (qc, .inl (cI, 2, .inl cn)), (qh, .inl (cI, 8, .inl hh))] sz)) (va_Qi (fun (r : Int32) (_ : Unit) => r = (f_BC_slotOnTrial sg wl fw iw sl ms sc ch cn hh).1) (fun _ => bc_post (dC, dI) cI cJ (va_A [(h, .inr (0, [.ref qf, .ref qd, .ref qi, .ref qs, .ref qr, .ref qc, .ref qg, .ref qh])), (qf, .inr (1, [.ref qfw, .int wl])), (qfw, .inl (cI, 70, .inl fw)), (qi, .inr (3, [.ref qiw])), (qiw, .inl (cI, 16, .inl iw)), (qs, .inr (4, [.ref gm, .ref gs, .ref gc, .int sl])), (gm, .inl (cI, 32, .inl ms)), (gs, .inl (cI, 64, .inl sc)), (gc, .inl (cI, 8, .inl ch)), (qc, .inl (cI, 2, .inl cn)), (qh, .inl (cI, 8, .inl hh))] sz) [(h, .inr (0, [.ref qf, .ref qd, .ref qi, .ref qs, .ref qr, .ref qc, .ref qg, .ref qh])), (qf, .inr (1, [.ref qfw, .int (f_BC_slotOnTrial sg wl fw iw sl ms sc ch cn hh).2.1])), (qfw, .inl (cI, 70, .inl (f_BC_slotOnTrial sg wl fw iw sl ms sc ch cn hh).2.2.1)), (qi, .inr (3, [.ref qiw])), (qiw, .inl (cI, 16, .inl (f_BC_slotOnTrial sg wl fw iw sl ms sc ch cn hh).2.2.2.1)), (qs, .inr (4, [.ref gm, .ref gs, .ref gc, .int (f_BC_slotOnTrial sg wl fw iw sl ms sc ch cn hh).2.2.2.2.1])), (gm, .inl (cI, 32, .inl (f_BC_slotOnTrial sg wl fw iw sl ms sc ch cn hh).2.2.2.2.2.1)), (gs, .inl (cI, 64, .inl (f_BC_slotOnTrial sg wl fw iw sl ms sc ch cn hh).2.2.2.2.2.2.1)), (gc, .inl (cI, 8, .inl (f_BC_slotOnTrial sg wl fw iw sl ms sc ch cn hh).2.2.2.2.2.2.2.1)), (qc, .inl (cI, 2, .inl cn)), (qh, .inl (cI, 8, .inl (f_BC_slotOnTrial sg wl fw iw sl ms sc ch cn hh).2.2.2.2.2.2.2.2))]) (va_A [(h, .inr (0, [.ref qf, .ref qd, .ref qi, .ref qs, .ref qr, .ref qc, .ref qg, .ref qh])), (qf, .inr (1, [.ref qfw, .int wl])), (qfw, .inl (cI, 70, .inl fw)), (qi, .inr (3, [.ref qiw])), (qiw, .inl (cI, 16, .inl iw)), (qs, .inr (4, [.ref gm, .ref gs, .ref gc, .int sl])), (gm, .inl (cI, 32, .inl ms)), (gs, .inl (cI, 64, .inl sc)), (gc, .inl (cI, 8, .inl ch)), (qc, .inl (cI, 2, .inl cn)), (qh, .inl (cI, 8, .inl hh))] sz)) 0 0 (va_A [(h, .inr (0, [.ref qf, .ref qd, .ref qi, .ref qs, .ref qr, .ref qc, .ref qg, .ref qh])), (qf, .inr (1, [.ref qfw, .int wl])), (qfw, .inl (cI, 70, .inl fw)), (qi, .inr (3, [.ref qiw])), (qiw, .inl (cI, 16, .inl iw)), (qs, .inr (4, [.ref gm, .ref gs, .ref gc, .int sl])), (gm, .inl (cI, 32, .inl ms)), (gs, .inl (cI, 64, .inl sc)), (gc, .inl (cI, 8, .inl ch)), (qc, .inl (cI, 2, .inl cn)), (qh, .inl (cI, 8, .inl hh))] sz) := by
  refine Met.ofW (cc := prog_1_method_20_code) (maxL := 5) (ret := (some .int)) (by decide) rfl ?_
  intro p e s m args below meth c s₁ B hml hv
  obtain ⟨rfl, hsz, hP, hK, hD0, hE⟩ := hv
  have hx := B.exec
  have hb := B.bytes
  have hr := B.returns
  have hts : ∀ w ∈ bc_G, w.before ([.ref h, .int sg] : List Value).toArray s = true := fun w h => atoms_spec (ws := ws_BC_slotOnTrial) B.pre w (List.mem_cons_of_mem _ h)
  have hown : s.vm.findClass "BootChain" = some m.cls := findClass_of_methodNamed B.named
  have hlocks := B.notSynchronized
  subst hsz
  have hD := hD0.self (sz := s.heap.size)
  generalize hAe : va_A [(h, .inr (0, [.ref qf, .ref qd, .ref qi, .ref qs, .ref qr, .ref qc, .ref qg, .ref qh])), (qf, .inr (1, [.ref qfw, .int wl])), (qfw, .inl (cI, 70, .inl fw)), (qi, .inr (3, [.ref qiw])), (qiw, .inl (cI, 16, .inl iw)), (qs, .inr (4, [.ref gm, .ref gs, .ref gc, .int sl])), (gm, .inl (cI, 32, .inl ms)), (gs, .inl (cI, 64, .inl sc)), (gc, .inl (cI, 8, .inl ch)), (qc, .inl (cI, 2, .inl cn)), (qh, .inl (cI, 8, .inl hh))] s.heap.size = A at hD hE ⊢
  have hA : ∀ q : Nat, s.heap.size ≤ q → A q := fun q h => by rw [← hAe]; exact Or.inr h
  have hS : va_S A s.heap s.heap [] := va_S.rf
  have jn_69 : ∀ (x2 : Int32) (y1_1 : Int32) (y2 : Nat → Int32) (y4 : Nat → Int32) (y5_3 : Int32) (y6 : Nat → Int32) (y7 : Nat → Int32) (y8 : Nat → Int32) (y10 : Nat → Int32) (H : Heap) (locs : List Loc) (ls : Array Slot), lv_has ls 5 [(0, .ref h), (1, .int sg), (2, .int x2)] → va_P (dC, dI) classes [(h, .inr (0, [.ref qf, .ref qd, .ref qi, .ref qs, .ref qr, .ref qc, .ref qg, .ref qh])), (qf, .inr (1, [.ref qfw, .int y1_1])), (qfw, .inl (cI, 70, .inl y2)), (qi, .inr (3, [.ref qiw])), (qiw, .inl (cI, 16, .inl y4)), (qs, .inr (4, [.ref gm, .ref gs, .ref gc, .int y5_3])), (gm, .inl (cI, 32, .inl y6)), (gs, .inl (cI, 64, .inl y7)), (gc, .inl (cI, 8, .inl y8)), (qc, .inl (cI, 2, .inl cn)), (qh, .inl (cI, 8, .inl y10))] H → va_D A [(h, .inr (0, [.ref qf, .ref qd, .ref qi, .ref qs, .ref qr, .ref qc, .ref qg, .ref qh])), (qf, .inr (1, [.ref qfw, .int y1_1])), (qfw, .inl (cI, 70, .inl y2)), (qi, .inr (3, [.ref qiw])), (qiw, .inl (cI, 16, .inl y4)), (qs, .inr (4, [.ref gm, .ref gs, .ref gc, .int y5_3])), (gm, .inl (cI, 32, .inl y6)), (gs, .inl (cI, 64, .inl y7)), (gc, .inl (cI, 8, .inl y8)), (qc, .inl (cI, 2, .inl cn)), (qh, .inl (cI, 8, .inl y10))] → va_S A s.heap H locs → W p l e (headSpec ws_BC_slotOnTrial ({ frames := 5, cells := 0, slots := 0, locals := 125 } : Room)).room s m ([.ref h, .int sg] : List Value).toArray below meth c H locs 0 0 (MQ below (va_Qi (fun (r : Int32) (_ : Unit) => r = (f_BC_slotOnTrial_j69 sg wl fw iw sl ms sc ch cn hh x2 y1_1 y2 y4 y5_3 y6 y7 y8 y10).1) (fun _ => bc_post (dC, dI) cI cJ A [(h, .inr (0, [.ref qf, .ref qd, .ref qi, .ref qs, .ref qr, .ref qc, .ref qg, .ref qh])), (qf, .inr (1, [.ref qfw, .int (f_BC_slotOnTrial_j69 sg wl fw iw sl ms sc ch cn hh x2 y1_1 y2 y4 y5_3 y6 y7 y8 y10).2.1])), (qfw, .inl (cI, 70, .inl (f_BC_slotOnTrial_j69 sg wl fw iw sl ms sc ch cn hh x2 y1_1 y2 y4 y5_3 y6 y7 y8 y10).2.2.1)), (qi, .inr (3, [.ref qiw])), (qiw, .inl (cI, 16, .inl (f_BC_slotOnTrial_j69 sg wl fw iw sl ms sc ch cn hh x2 y1_1 y2 y4 y5_3 y6 y7 y8 y10).2.2.2.1)), (qs, .inr (4, [.ref gm, .ref gs, .ref gc, .int (f_BC_slotOnTrial_j69 sg wl fw iw sl ms sc ch cn hh x2 y1_1 y2 y4 y5_3 y6 y7 y8 y10).2.2.2.2.1])), (gm, .inl (cI, 32, .inl (f_BC_slotOnTrial_j69 sg wl fw iw sl ms sc ch cn hh x2 y1_1 y2 y4 y5_3 y6 y7 y8 y10).2.2.2.2.2.1)), (gs, .inl (cI, 64, .inl (f_BC_slotOnTrial_j69 sg wl fw iw sl ms sc ch cn hh x2 y1_1 y2 y4 y5_3 y6 y7 y8 y10).2.2.2.2.2.2.1)), (gc, .inl (cI, 8, .inl (f_BC_slotOnTrial_j69 sg wl fw iw sl ms sc ch cn hh x2 y1_1 y2 y4 y5_3 y6 y7 y8 y10).2.2.2.2.2.2.2.1)), (qc, .inl (cI, 2, .inl cn)), (qh, .inl (cI, 8, .inl (f_BC_slotOnTrial_j69 sg wl fw iw sl ms sc ch cn hh x2 y1_1 y2 y4 y5_3 y6 y7 y8 y10).2.2.2.2.2.2.2.2))]) A) ([.ref h, .int sg] : List Value).toArray s 0 0 A) (F0 m 69 ls []) := by
    intro x2 y1_1 y2 y4 y5_3 y6 y7 y8 y10 H locs ls hl hP hD hS
    refine lv_aload_n hx hb d_BC_slotOnTrial_69 rfl (lv_at hl 0 rfl) ?_
    refine va_get (D := (dC, dI)) (ci := 0) (v := .ref qf) (C := R_BC) (T := F_BC) (N := 8) hx hb hts in_BC hown hK hP 0 rfl rfl 0 (by decide) (hts _ gw_65) (fun _ h9 => h9) rfl d_BC_slotOnTrial_70 ?_
    refine lv_iload_n hx hb d_BC_slotOnTrial_73 rfl (lv_at hl 2 rfl) ?_
    refine lv_iload_n hx hb d_BC_slotOnTrial_74 rfl (lv_at hl 1 rfl) ?_
    have hPc := hP.sub (ws' := []) [] rfl
    have hDc := hD.sub (ws' := []) [] (by decide) rfl
    have hFc := va_free (wc := []) hD hS hA [] rfl
    refine va_calli (va_runS (As := [.int x2, .int sg]) (rest := [.ref qf]) ⟨hx, hb, hml, hown, hts⟩ (c_SB_withoutTrial l dC dI cI cJ _ x2 sg) ⟨callB_of 2 hts (bc_good gw_271) rfl rfl rfl (hts _ gw_12) (hts _ gw_336) (by decide +kernel) ⟨Nat.le_of_ble_eq_true rfl, Nat.le_of_ble_eq_true rfl⟩, (hts _ gw_270)⟩ ⟨bc_blind, fun U hU hW => ⟨rfl, bc_give hPc hDc hK hE hS hFc U hU hW⟩⟩ rfl rfl hl.1 rfl (lv_room (Nat.le_of_ble_eq_true rfl)) d_BC_slotOnTrial_75 ⟨Nat.le_of_ble_eq_true rfl, Nat.le_of_ble_eq_true rfl⟩) hS (fun q _ h => hFc q h) hFc (fun r u t H9 locs ht hvm hp hB hz1 hk1 hS => ?_)
    subst hp
    obtain ⟨hP, hD⟩ := va_join (wr := [(h, .inr (0, [.ref qf, .ref qd, .ref qi, .ref qs, .ref qr, .ref qc, .ref qg, .ref qh])), (qf, .inr (1, [.ref qfw, .int y1_1])), (qfw, .inl (cI, 70, .inl y2)), (qi, .inr (3, [.ref qiw])), (qiw, .inl (cI, 16, .inl y4)), (qs, .inr (4, [.ref gm, .ref gs, .ref gc, .int y5_3])), (gm, .inl (cI, 32, .inl y6)), (gs, .inl (cI, 64, .inl y7)), (gc, .inl (cI, 8, .inl y8)), (qc, .inl (cI, 2, .inl cn)), (qh, .inl (cI, 8, .inl y10))]) (w1 := []) hP hD [] [0, 1, 2, 3, 4, 5, 6, 7, 8, 9, 10] rfl rfl (by decide) (by decide) hk1 hFc (ht ▸ hB.1) hB.2.2
    have hP := hP.sub (ws' := [(h, .inr (0, [.ref qf, .ref qd, .ref qi, .ref qs, .ref qr, .ref qc, .ref qg, .ref qh])), (qf, .inr (1, [.ref qfw, .int y1_1])), (qfw, .inl (cI, 70, .inl y2)), (qi, .inr (3, [.ref qiw])), (qiw, .inl (cI, 16, .inl y4)), (qs, .inr (4, [.ref gm, .ref gs, .ref gc, .int y5_3])), (gm, .inl (cI, 32, .inl y6)), (gs, .inl (cI, 64, .inl y7)), (gc, .inl (cI, 8, .inl y8)), (qc, .inl (cI, 2, .inl cn)), (qh, .inl (cI, 8, .inl y10))]) [0, 1, 2, 3, 4, 5, 6, 7, 8, 9, 10] rfl
    have hD := hD.sub (ws' := [(h, .inr (0, [.ref qf, .ref qd, .ref qi, .ref qs, .ref qr, .ref qc, .ref qg, .ref qh])), (qf, .inr (1, [.ref qfw, .int y1_1])), (qfw, .inl (cI, 70, .inl y2)), (qi, .inr (3, [.ref qiw])), (qiw, .inl (cI, 16, .inl y4)), (qs, .inr (4, [.ref gm, .ref gs, .ref gc, .int y5_3])), (gm, .inl (cI, 32, .inl y6)), (gs, .inl (cI, 64, .inl y7)), (gc, .inl (cI, 8, .inl y8)), (qc, .inl (cI, 2, .inl cn)), (qh, .inl (cI, 8, .inl y10))]) [0, 1, 2, 3, 4, 5, 6, 7, 8, 9, 10] (by decide) rfl
    generalize H9 = H at hP hS ⊢
    have hPc := hP.sub (ws' := [(qf, .inr (1, [.ref qfw, .int y1_1])), (qfw, .inl (cI, 70, .inl y2))]) [1, 2] rfl
    have hDc := hD.sub (ws' := [(qf, .inr (1, [.ref qfw, .int y1_1])), (qfw, .inl (cI, 70, .inl y2))]) [1, 2] (by decide) rfl
    have hFc := va_free (wc := [(qf, .inr (1, [.ref qfw, .int y1_1])), (qfw, .inl (cI, 70, .inl y2))]) hD hS hA [1, 2] rfl
    refine va_calli (va_runV (As := [.int (f_SB_withoutTrial x2 sg)]) (rest := []) ⟨hx, hb, hml, hown, hts⟩ (c_FL_writeRecord l dC dI cI cJ qf qfw _ (f_SB_withoutTrial x2 sg) y1_1 y2) ⟨callB_of 1 hts (bc_good gw_283) rfl rfl rfl (hts _ gw_2) (hts _ gw_280) (by decide +kernel) ⟨Nat.le_of_ble_eq_true rfl, Nat.le_of_ble_eq_true rfl⟩, (hts _ gw_281), (hts _ gw_282)⟩ ⟨bc_blind, va_recv (q0 := 1) hK hP (q := (R_FL, F_FL, 2)) rfl rfl, fun U hU hW => ⟨rfl, bc_give hPc hDc hK hE hS hFc U hU hW⟩⟩ rfl rfl hl.1 rfl (lv_room (Nat.le_of_ble_eq_true rfl)) d_BC_slotOnTrial_78 ⟨Nat.le_of_ble_eq_true rfl, Nat.le_of_ble_eq_true rfl⟩) hS (fun q _ h => hFc q h) hFc (fun r u t H9 locs ht hvm hp hB hz1 hk1 hS => ?_)
    subst hp
    obtain ⟨hP, hD⟩ := va_join (wr := [(h, .inr (0, [.ref qf, .ref qd, .ref qi, .ref qs, .ref qr, .ref qc, .ref qg, .ref qh])), (qi, .inr (3, [.ref qiw])), (qiw, .inl (cI, 16, .inl y4)), (qs, .inr (4, [.ref gm, .ref gs, .ref gc, .int y5_3])), (gm, .inl (cI, 32, .inl y6)), (gs, .inl (cI, 64, .inl y7)), (gc, .inl (cI, 8, .inl y8)), (qc, .inl (cI, 2, .inl cn)), (qh, .inl (cI, 8, .inl y10))]) (w1 := [(qf, .inr (1, [.ref qfw, .int ((f_FL_writeRecord (f_SB_withoutTrial x2 sg) y1_1 y2).2.1)])), (qfw, .inl (cI, 70, .inl ((f_FL_writeRecord (f_SB_withoutTrial x2 sg) y1_1 y2).2.2)))]) hP hD [1, 2] [0, 3, 4, 5, 6, 7, 8, 9, 10] rfl rfl (by decide) (by decide) hk1 hFc (ht ▸ hB.1) hB.2.2
    have hP := hP.sub (ws' := [(h, .inr (0, [.ref qf, .ref qd, .ref qi, .ref qs, .ref qr, .ref qc, .ref qg, .ref qh])), (qf, .inr (1, [.ref qfw, .int ((f_FL_writeRecord (f_SB_withoutTrial x2 sg) y1_1 y2).2.1)])), (qfw, .inl (cI, 70, .inl ((f_FL_writeRecord (f_SB_withoutTrial x2 sg) y1_1 y2).2.2))), (qi, .inr (3, [.ref qiw])), (qiw, .inl (cI, 16, .inl y4)), (qs, .inr (4, [.ref gm, .ref gs, .ref gc, .int y5_3])), (gm, .inl (cI, 32, .inl y6)), (gs, .inl (cI, 64, .inl y7)), (gc, .inl (cI, 8, .inl y8)), (qc, .inl (cI, 2, .inl cn)), (qh, .inl (cI, 8, .inl y10))]) [0, 9, 10, 1, 2, 3, 4, 5, 6, 7, 8] rfl
    have hD := hD.sub (ws' := [(h, .inr (0, [.ref qf, .ref qd, .ref qi, .ref qs, .ref qr, .ref qc, .ref qg, .ref qh])), (qf, .inr (1, [.ref qfw, .int ((f_FL_writeRecord (f_SB_withoutTrial x2 sg) y1_1 y2).2.1)])), (qfw, .inl (cI, 70, .inl ((f_FL_writeRecord (f_SB_withoutTrial x2 sg) y1_1 y2).2.2))), (qi, .inr (3, [.ref qiw])), (qiw, .inl (cI, 16, .inl y4)), (qs, .inr (4, [.ref gm, .ref gs, .ref gc, .int y5_3])), (gm, .inl (cI, 32, .inl y6)), (gs, .inl (cI, 64, .inl y7)), (gc, .inl (cI, 8, .inl y8)), (qc, .inl (cI, 2, .inl cn)), (qh, .inl (cI, 8, .inl y10))]) [0, 9, 10, 1, 2, 3, 4, 5, 6, 7, 8] (by decide) rfl
    generalize H9 = H at hP hS ⊢
    have e0 : (f_BC_slotOnTrial_j69 sg wl fw iw sl ms sc ch cn hh x2 y1_1 y2 y4 y5_3 y6 y7 y8 y10) = f_BC_slotOnTrial_c3 sg wl fw iw sl ms sc ch cn hh x2 y1_1 y2 y4 y5_3 y6 y7 y8 y10 (f_FL_writeRecord (f_SB_withoutTrial x2 sg) y1_1 y2) := by rw [f_BC_slotOnTrial_j69]
    rw [e0]
    generalize hu3 : (f_FL_writeRecord (f_SB_withoutTrial x2 sg) y1_1 y2) = u3 at hP hD ⊢
    have hP : va_P (dC, dI) classes [(h, .inr (0, [.ref qf, .ref qd, .ref qi, .ref qs, .ref qr, .ref qc, .ref qg, .ref qh])), (qf, .inr (1, [.ref qfw, .int (u3.2.1)])), (qfw, .inl (cI, 70, .inl (u3.2.2))), (qi, .inr (3, [.ref qiw])), (qiw, .inl (cI, 16, .inl y4)), (qs, .inr (4, [.ref gm, .ref gs, .ref gc, .int y5_3])), (gm, .inl (cI, 32, .inl y6)), (gs, .inl (cI, 64, .inl y7)), (gc, .inl (cI, 8, .inl y8)), (qc, .inl (cI, 2, .inl cn)), (qh, .inl (cI, 8, .inl y10))] H := hP
    have hD : va_D A [(h, .inr (0, [.ref qf, .ref qd, .ref qi, .ref qs, .ref qr, .ref qc, .ref qg, .ref qh])), (qf, .inr (1, [.ref qfw, .int (u3.2.1)])), (qfw, .inl (cI, 70, .inl (u3.2.2))), (qi, .inr (3, [.ref qiw])), (qiw, .inl (cI, 16, .inl y4)), (qs, .inr (4, [.ref gm, .ref gs, .ref gc, .int y5_3])), (gm, .inl (cI, 32, .inl y6)), (gs, .inl (cI, 64, .inl y7)), (gc, .inl (cI, 8, .inl y8)), (qc, .inl (cI, 2, .inl cn)), (qh, .inl (cI, 8, .inl y10))] := hD
    refine lv_if_eq (tgt := 88) hx hb d_BC_slotOnTrial_81 (by decide) (fun h10 => ?_) (fun h10 => ?_)
    · refine lv_bipush (v := (-2)) hx hb d_BC_slotOnTrial_88 (by decide) ?_
      have e0 : (f_BC_slotOnTrial_c3 sg wl fw iw sl ms sc ch cn hh x2 y1_1 y2 y4 y5_3 y6 y7 y8 y10 u3) = ((-2 : Int32), (u3.2.1), (u3.2.2), y4, y5_3, y6, y7, y8, y10) := by rw [f_BC_slotOnTrial_c3, if_pos h10]
      rw [e0]
      exact W.iret (v := (-2 : Int32)) hx hb hr (fun t ht hW => ⟨⟨(-2 : Int32), (), rfl, rfl, by rw [ht]; exact hP, va_K.moved hW.alike hK, hD⟩, hS.F ht⟩) hS.2.2 d_BC_slotOnTrial_90
    · refine lv_iconst (v := (-1)) hx hb d_BC_slotOnTrial_84 (by decide) ?_
      refine lv_goto (tgt := 90) hx hb d_BC_slotOnTrial_85 (by decide) ?_
      have e0 : (f_BC_slotOnTrial_c3 sg wl fw iw sl ms sc ch cn hh x2 y1_1 y2 y4 y5_3 y6 y7 y8 y10 u3) = ((-1 : Int32), (u3.2.1), (u3.2.2), y4, y5_3, y6, y7, y8, y10) := by rw [f_BC_slotOnTrial_c3, if_neg h10]
      rw [e0]
      exact W.iret (v := (-1 : Int32)) hx hb hr (fun t ht hW => ⟨⟨(-1 : Int32), (), rfl, rfl, by rw [ht]; exact hP, va_K.moved hW.alike hK, hD⟩, hS.F ht⟩) hS.2.2 d_BC_slotOnTrial_90
  have hl := lv_entry ([.ref h, .int sg]) (n := 5) (Nat.le_of_ble_eq_true rfl)
  rw [lg_entry_eq]
  generalize (lg_sl ([.ref h, .int sg]) ++ List.replicate (5 - (lg_sl ([.ref h, .int sg])).length) Slot.unset).toArray = ls at hl ⊢
  have hl : lv_has ls 5 [(0, .ref h), (1, .int sg)] := hl
  refine lv_aload_n hx hb d_BC_slotOnTrial_0 rfl (lv_at hl 0 rfl) ?_
  refine va_get (D := (dC, dI)) (ci := 0) (v := .ref qf) (C := R_BC) (T := F_BC) (N := 8) hx hb hts in_BC hown hK hP 0 rfl rfl 0 (by decide) (hts _ gw_65) (fun _ h9 => h9) rfl d_BC_slotOnTrial_1 ?_
  have hPc := hP.sub (ws' := [(qf, .inr (1, [.ref qfw, .int wl])), (qfw, .inl (cI, 70, .inl fw))]) [1, 2] rfl
  have hDc := hD.sub (ws' := [(qf, .inr (1, [.ref qfw, .int wl])), (qfw, .inl (cI, 70, .inl fw))]) [1, 2] (by decide) rfl
  have hFc := va_free (wc := [(qf, .inr (1, [.ref qfw, .int wl])), (qfw, .inl (cI, 70, .inl fw))]) hD hS hA [1, 2] rfl
  refine va_calli (va_runV (As := []) (rest := []) ⟨hx, hb, hml, hown, hts⟩ (c_FL_heldState l dC dI cI cJ qf qfw _ wl fw) ⟨callB_of 0 hts (bc_good gw_89) rfl rfl rfl (hts _ gw_2) (hts _ gw_86) (by decide +kernel) ⟨Nat.le_of_ble_eq_true rfl, Nat.le_of_ble_eq_true rfl⟩, (hts _ gw_87), (hts _ gw_88)⟩ ⟨bc_blind, va_recv (q0 := 1) hK hP (q := (R_FL, F_FL, 2)) rfl rfl, fun U hU hW => ⟨rfl, bc_give hPc hDc hK hE hS hFc U hU hW⟩⟩ rfl rfl hl.1 rfl (lv_room (Nat.le_of_ble_eq_true rfl)) d_BC_slotOnTrial_4 ⟨Nat.le_of_ble_eq_true rfl, Nat.le_of_ble_eq_true rfl⟩) hS (fun q _ h => hFc q h) hFc (fun r u t H9 locs ht hvm hp hB hz1 hk1 hS => ?_)
  subst hp
  obtain ⟨hP, hD⟩ := va_join (wr := [(h, .inr (0, [.ref qf, .ref qd, .ref qi, .ref qs, .ref qr, .ref qc, .ref qg, .ref qh])), (qi, .inr (3, [.ref qiw])), (qiw, .inl (cI, 16, .inl iw)), (qs, .inr (4, [.ref gm, .ref gs, .ref gc, .int sl])), (gm, .inl (cI, 32, .inl ms)), (gs, .inl (cI, 64, .inl sc)), (gc, .inl (cI, 8, .inl ch)), (qc, .inl (cI, 2, .inl cn)), (qh, .inl (cI, 8, .inl hh))]) (w1 := [(qf, .inr (1, [.ref qfw, .int wl])), (qfw, .inl (cI, 70, .inl fw))]) hP hD [1, 2] [0, 3, 4, 5, 6, 7, 8, 9, 10] rfl rfl (by decide) (by decide) hk1 hFc (ht ▸ hB.1) hB.2.2
  have hP := hP.sub (ws' := [(h, .inr (0, [.ref qf, .ref qd, .ref qi, .ref qs, .ref qr, .ref qc, .ref qg, .ref qh])), (qf, .inr (1, [.ref qfw, .int wl])), (qfw, .inl (cI, 70, .inl fw)), (qi, .inr (3, [.ref qiw])), (qiw, .inl (cI, 16, .inl iw)), (qs, .inr (4, [.ref gm, .ref gs, .ref gc, .int sl])), (gm, .inl (cI, 32, .inl ms)), (gs, .inl (cI, 64, .inl sc)), (gc, .inl (cI, 8, .inl ch)), (qc, .inl (cI, 2, .inl cn)), (qh, .inl (cI, 8, .inl hh))]) [0, 9, 10, 1, 2, 3, 4, 5, 6, 7, 8] rfl
  have hD := hD.sub (ws' := [(h, .inr (0, [.ref qf, .ref qd, .ref qi, .ref qs, .ref qr, .ref qc, .ref qg, .ref qh])), (qf, .inr (1, [.ref qfw, .int wl])), (qfw, .inl (cI, 70, .inl fw)), (qi, .inr (3, [.ref qiw])), (qiw, .inl (cI, 16, .inl iw)), (qs, .inr (4, [.ref gm, .ref gs, .ref gc, .int sl])), (gm, .inl (cI, 32, .inl ms)), (gs, .inl (cI, 64, .inl sc)), (gc, .inl (cI, 8, .inl ch)), (qc, .inl (cI, 2, .inl cn)), (qh, .inl (cI, 8, .inl hh))]) [0, 9, 10, 1, 2, 3, 4, 5, 6, 7, 8] (by decide) rfl
  generalize H9 = H at hP hS ⊢
  refine lv_istore_n (lv' := [(2, .int (f_FL_heldState wl fw)), (0, .ref h), (1, .int sg)]) hx hb d_BC_slotOnTrial_7 rfl hl (by decide) rfl (fun ls hl => ?_)
  refine lv_iload_n hx hb d_BC_slotOnTrial_8 rfl (lv_at hl 0 rfl) ?_
  refine lv_iload_n hx hb d_BC_slotOnTrial_9 rfl (lv_at hl 2 rfl) ?_
  have hPc := hP.sub (ws' := []) [] rfl
  have hDc := hD.sub (ws' := []) [] (by decide) rfl
  have hFc := va_free (wc := []) hD hS hA [] rfl
  refine va_calli (va_runS (As := [.int (f_FL_heldState wl fw), .int sg]) (rest := []) ⟨hx, hb, hml, hown, hts⟩ (c_SB_onTrial l dC dI cI cJ _ (f_FL_heldState wl fw) sg) ⟨callB_of 2 hts (bc_good gw_306) rfl rfl rfl (hts _ gw_12) (hts _ gw_304) (by decide +kernel) ⟨Nat.le_of_ble_eq_true rfl, Nat.le_of_ble_eq_true rfl⟩, (hts _ gw_305)⟩ ⟨bc_blind, fun U hU hW => ⟨rfl, bc_give hPc hDc hK hE hS hFc U hU hW⟩⟩ rfl rfl hl.1 rfl (lv_room (Nat.le_of_ble_eq_true rfl)) d_BC_slotOnTrial_10 ⟨Nat.le_of_ble_eq_true rfl, Nat.le_of_ble_eq_true rfl⟩) hS (fun q _ h => hFc q h) hFc (fun r u t H9 locs ht hvm hp hB hz1 hk1 hS => ?_)
  subst hp
  obtain ⟨hP, hD⟩ := va_join (wr := [(h, .inr (0, [.ref qf, .ref qd, .ref qi, .ref qs, .ref qr, .ref qc, .ref qg, .ref qh])), (qf, .inr (1, [.ref qfw, .int wl])), (qfw, .inl (cI, 70, .inl fw)), (qi, .inr (3, [.ref qiw])), (qiw, .inl (cI, 16, .inl iw)), (qs, .inr (4, [.ref gm, .ref gs, .ref gc, .int sl])), (gm, .inl (cI, 32, .inl ms)), (gs, .inl (cI, 64, .inl sc)), (gc, .inl (cI, 8, .inl ch)), (qc, .inl (cI, 2, .inl cn)), (qh, .inl (cI, 8, .inl hh))]) (w1 := []) hP hD [] [0, 1, 2, 3, 4, 5, 6, 7, 8, 9, 10] rfl rfl (by decide) (by decide) hk1 hFc (ht ▸ hB.1) hB.2.2
  have hP := hP.sub (ws' := [(h, .inr (0, [.ref qf, .ref qd, .ref qi, .ref qs, .ref qr, .ref qc, .ref qg, .ref qh])), (qf, .inr (1, [.ref qfw, .int wl])), (qfw, .inl (cI, 70, .inl fw)), (qi, .inr (3, [.ref qiw])), (qiw, .inl (cI, 16, .inl iw)), (qs, .inr (4, [.ref gm, .ref gs, .ref gc, .int sl])), (gm, .inl (cI, 32, .inl ms)), (gs, .inl (cI, 64, .inl sc)), (gc, .inl (cI, 8, .inl ch)), (qc, .inl (cI, 2, .inl cn)), (qh, .inl (cI, 8, .inl hh))]) [0, 1, 2, 3, 4, 5, 6, 7, 8, 9, 10] rfl
  have hD := hD.sub (ws' := [(h, .inr (0, [.ref qf, .ref qd, .ref qi, .ref qs, .ref qr, .ref qc, .ref qg, .ref qh])), (qf, .inr (1, [.ref qfw, .int wl])), (qfw, .inl (cI, 70, .inl fw)), (qi, .inr (3, [.ref qiw])), (qiw, .inl (cI, 16, .inl iw)), (qs, .inr (4, [.ref gm, .ref gs, .ref gc, .int sl])), (gm, .inl (cI, 32, .inl ms)), (gs, .inl (cI, 64, .inl sc)), (gc, .inl (cI, 8, .inl ch)), (qc, .inl (cI, 2, .inl cn)), (qh, .inl (cI, 8, .inl hh))]) [0, 1, 2, 3, 4, 5, 6, 7, 8, 9, 10] (by decide) rfl
  generalize H9 = H at hP hS ⊢
  refine lv_if_ne (tgt := 18) hx hb d_BC_slotOnTrial_13 (by decide) (fun h6 => ?_) (fun h6 => ?_)
  · refine lv_iload_n hx hb d_BC_slotOnTrial_18 rfl (lv_at hl 0 rfl) ?_
    refine lv_iload_n hx hb d_BC_slotOnTrial_19 rfl (lv_at hl 2 rfl) ?_
    have hPc := hP.sub (ws' := []) [] rfl
    have hDc := hD.sub (ws' := []) [] (by decide) rfl
    have hFc := va_free (wc := []) hD hS hA [] rfl
    refine va_calli (va_runS (As := [.int (f_FL_heldState wl fw), .int sg]) (rest := []) ⟨hx, hb, hml, hown, hts⟩ (c_SB_triesLeft l dC dI cI cJ _ (f_FL_heldState wl fw) sg) ⟨callB_of 2 hts (bc_good gw_309) rfl rfl rfl (hts _ gw_12) (hts _ gw_307) (by decide +kernel) ⟨Nat.le_of_ble_eq_true rfl, Nat.le_of_ble_eq_true rfl⟩, (hts _ gw_308)⟩ ⟨bc_blind, fun U hU hW => ⟨rfl, bc_give hPc hDc hK hE hS hFc U hU hW⟩⟩ rfl rfl hl.1 rfl (lv_room (Nat.le_of_ble_eq_true rfl)) d_BC_slotOnTrial_20 ⟨Nat.le_of_ble_eq_true rfl, Nat.le_of_ble_eq_true rfl⟩) hS (fun q _ h => hFc q h) hFc (fun r u t H9 locs ht hvm hp hB hz1 hk1 hS => ?_)
    subst hp
    obtain ⟨hP, hD⟩ := va_join (wr := [(h, .inr (0, [.ref qf, .ref qd, .ref qi, .ref qs, .ref qr, .ref qc, .ref qg, .ref qh])), (qf, .inr (1, [.ref qfw, .int wl])), (qfw, .inl (cI, 70, .inl fw)), (qi, .inr (3, [.ref qiw])), (qiw, .inl (cI, 16, .inl iw)), (qs, .inr (4, [.ref gm, .ref gs, .ref gc, .int sl])), (gm, .inl (cI, 32, .inl ms)), (gs, .inl (cI, 64, .inl sc)), (gc, .inl (cI, 8, .inl ch)), (qc, .inl (cI, 2, .inl cn)), (qh, .inl (cI, 8, .inl hh))]) (w1 := []) hP hD [] [0, 1, 2, 3, 4, 5, 6, 7, 8, 9, 10] rfl rfl (by decide) (by decide) hk1 hFc (ht ▸ hB.1) hB.2.2
    have hP := hP.sub (ws' := [(h, .inr (0, [.ref qf, .ref qd, .ref qi, .ref qs, .ref qr, .ref qc, .ref qg, .ref qh])), (qf, .inr (1, [.ref qfw, .int wl])), (qfw, .inl (cI, 70, .inl fw)), (qi, .inr (3, [.ref qiw])), (qiw, .inl (cI, 16, .inl iw)), (qs, .inr (4, [.ref gm, .ref gs, .ref gc, .int sl])), (gm, .inl (cI, 32, .inl ms)), (gs, .inl (cI, 64, .inl sc)), (gc, .inl (cI, 8, .inl ch)), (qc, .inl (cI, 2, .inl cn)), (qh, .inl (cI, 8, .inl hh))]) [0, 1, 2, 3, 4, 5, 6, 7, 8, 9, 10] rfl
    have hD := hD.sub (ws' := [(h, .inr (0, [.ref qf, .ref qd, .ref qi, .ref qs, .ref qr, .ref qc, .ref qg, .ref qh])), (qf, .inr (1, [.ref qfw, .int wl])), (qfw, .inl (cI, 70, .inl fw)), (qi, .inr (3, [.ref qiw])), (qiw, .inl (cI, 16, .inl iw)), (qs, .inr (4, [.ref gm, .ref gs, .ref gc, .int sl])), (gm, .inl (cI, 32, .inl ms)), (gs, .inl (cI, 64, .inl sc)), (gc, .inl (cI, 8, .inl ch)), (qc, .inl (cI, 2, .inl cn)), (qh, .inl (cI, 8, .inl hh))]) [0, 1, 2, 3, 4, 5, 6, 7, 8, 9, 10] (by decide) rfl
    generalize H9 = H at hP hS ⊢
    refine lv_istore_n (lv' := [(3, .int (f_SB_triesLeft (f_FL_heldState wl fw) sg)), (2, .int (f_FL_heldState wl fw)), (0, .ref h), (1, .int sg)]) hx hb d_BC_slotOnTrial_23 rfl hl (by decide) rfl (fun ls hl => ?_)
    refine lv_iload_n hx hb d_BC_slotOnTrial_24 rfl (lv_at hl 0 rfl) ?_
    refine lv_if_le (tgt := 69) hx hb d_BC_slotOnTrial_25 (by decide) (fun h7 => ?_) (fun h7 => ?_)
    · have e0 : (f_BC_slotOnTrial sg wl fw iw sl ms sc ch cn hh) = f_BC_slotOnTrial_j69 sg wl fw iw sl ms sc ch cn hh (f_FL_heldState wl fw) wl fw iw sl ms sc ch hh := by rw [f_BC_slotOnTrial, if_neg h6, if_pos h7]
      rw [e0]
      exact jn_69 (f_FL_heldState wl fw) wl fw iw sl ms sc ch hh _ _ ls (lv_sub hl [2, 3, 1] rfl) hP hD hS
    · refine lv_iload_n hx hb d_BC_slotOnTrial_28 rfl (lv_at hl 1 rfl) ?_
      refine lv_iload_n hx hb d_BC_slotOnTrial_29 rfl (lv_at hl 3 rfl) ?_
      have hPc := hP.sub (ws' := []) [] rfl
      have hDc := hD.sub (ws' := []) [] (by decide) rfl
      have hFc := va_free (wc := []) hD hS hA [] rfl
      refine va_calli (va_runS (As := [.int (f_FL_heldState wl fw), .int sg]) (rest := []) ⟨hx, hb, hml, hown, hts⟩ (c_SB_otherSlot l dC dI cI cJ _ (f_FL_heldState wl fw) sg) ⟨callB_of 2 hts (bc_good gw_259) rfl rfl rfl (hts _ gw_12) (hts _ gw_257) (by decide +kernel) ⟨Nat.le_of_ble_eq_true rfl, Nat.le_of_ble_eq_true rfl⟩, (hts _ gw_258)⟩ ⟨bc_blind, fun U hU hW => ⟨rfl, bc_give hPc hDc hK hE hS hFc U hU hW⟩⟩ rfl rfl hl.1 rfl (lv_room (Nat.le_of_ble_eq_true rfl)) d_BC_slotOnTrial_30 ⟨Nat.le_of_ble_eq_true rfl, Nat.le_of_ble_eq_true rfl⟩) hS (fun q _ h => hFc q h) hFc (fun r u t H9 locs ht hvm hp hB hz1 hk1 hS => ?_)
      subst hp
      obtain ⟨hP, hD⟩ := va_join (wr := [(h, .inr (0, [.ref qf, .ref qd, .ref qi, .ref qs, .ref qr, .ref qc, .ref qg, .ref qh])), (qf, .inr (1, [.ref qfw, .int wl])), (qfw, .inl (cI, 70, .inl fw)), (qi, .inr (3, [.ref qiw])), (qiw, .inl (cI, 16, .inl iw)), (qs, .inr (4, [.ref gm, .ref gs, .ref gc, .int sl])), (gm, .inl (cI, 32, .inl ms)), (gs, .inl (cI, 64, .inl sc)), (gc, .inl (cI, 8, .inl ch)), (qc, .inl (cI, 2, .inl cn)), (qh, .inl (cI, 8, .inl hh))]) (w1 := []) hP hD [] [0, 1, 2, 3, 4, 5, 6, 7, 8, 9, 10] rfl rfl (by decide) (by decide) hk1 hFc (ht ▸ hB.1) hB.2.2
      have hP := hP.sub (ws' := [(h, .inr (0, [.ref qf, .ref qd, .ref qi, .ref qs, .ref qr, .ref qc, .ref qg, .ref qh])), (qf, .inr (1, [.ref qfw, .int wl])), (qfw, .inl (cI, 70, .inl fw)), (qi, .inr (3, [.ref qiw])), (qiw, .inl (cI, 16, .inl iw)), (qs, .inr (4, [.ref gm, .ref gs, .ref gc, .int sl])), (gm, .inl (cI, 32, .inl ms)), (gs, .inl (cI, 64, .inl sc)), (gc, .inl (cI, 8, .inl ch)), (qc, .inl (cI, 2, .inl cn)), (qh, .inl (cI, 8, .inl hh))]) [0, 1, 2, 3, 4, 5, 6, 7, 8, 9, 10] rfl
      have hD := hD.sub (ws' := [(h, .inr (0, [.ref qf, .ref qd, .ref qi, .ref qs, .ref qr, .ref qc, .ref qg, .ref qh])), (qf, .inr (1, [.ref qfw, .int wl])), (qfw, .inl (cI, 70, .inl fw)), (qi, .inr (3, [.ref qiw])), (qiw, .inl (cI, 16, .inl iw)), (qs, .inr (4, [.ref gm, .ref gs, .ref gc, .int sl])), (gm, .inl (cI, 32, .inl ms)), (gs, .inl (cI, 64, .inl sc)), (gc, .inl (cI, 8, .inl ch)), (qc, .inl (cI, 2, .inl cn)), (qh, .inl (cI, 8, .inl hh))]) [0, 1, 2, 3, 4, 5, 6, 7, 8, 9, 10] (by decide) rfl
      generalize H9 = H at hP hS ⊢
      refine lv_istore (lv' := [(4, .int (f_SB_otherSlot (f_FL_heldState wl fw) sg)), (3, .int (f_SB_triesLeft (f_FL_heldState wl fw) sg)), (2, .int (f_FL_heldState wl fw)), (0, .ref h), (1, .int sg)]) hx hb d_BC_slotOnTrial_33 hl (by decide) rfl (fun ls hl => ?_)
      refine lv_aload_n hx hb d_BC_slotOnTrial_35 rfl (lv_at hl 3 rfl) ?_
      refine va_get (D := (dC, dI)) (ci := 0) (v := .ref qf) (C := R_BC) (T := F_BC) (N := 8) hx hb hts in_BC hown hK hP 0 rfl rfl 0 (by decide) (hts _ gw_65) (fun _ h9 => h9) rfl d_BC_slotOnTrial_36 ?_
      refine lv_iload_n hx hb d_BC_slotOnTrial_39 rfl (lv_at hl 2 rfl) ?_
      refine lv_iload_n hx hb d_BC_slotOnTrial_40 rfl (lv_at hl 4 rfl) ?_
      refine lv_iload_n hx hb d_BC_slotOnTrial_41 rfl (lv_at hl 1 rfl) ?_
      refine lv_iconst (v := 1) hx hb d_BC_slotOnTrial_42 (by decide) ?_
      refine lv_isub hx hb d_BC_slotOnTrial_43 ?_
      have hPc := hP.sub (ws' := []) [] rfl
      have hDc := hD.sub (ws' := []) [] (by decide) rfl
      have hFc := va_free (wc := []) hD hS hA [] rfl
      refine va_calli (va_runS (As := [.int (f_FL_heldState wl fw), .int sg, .int ((f_SB_triesLeft (f_FL_heldState wl fw) sg) - (1 : Int32))]) (rest := [.ref qf]) ⟨hx, hb, hml, hown, hts⟩ (c_SB_withTrial l dC dI cI cJ _ (f_FL_heldState wl fw) sg ((f_SB_triesLeft (f_FL_heldState wl fw) sg) - (1 : Int32))) ⟨callB_of 3 hts (bc_good gw_268) rfl rfl rfl (hts _ gw_12) (hts _ gw_266) (by decide +kernel) ⟨Nat.le_of_ble_eq_true rfl, Nat.le_of_ble_eq_true rfl⟩, (hts _ gw_267)⟩ ⟨bc_blind, fun U hU hW => ⟨rfl, bc_give hPc hDc hK hE hS hFc U hU hW⟩⟩ rfl rfl hl.1 rfl (lv_room (Nat.le_of_ble_eq_true rfl)) d_BC_slotOnTrial_44 ⟨Nat.le_of_ble_eq_true rfl, Nat.le_of_ble_eq_true rfl⟩) hS (fun q _ h => hFc q h) hFc (fun r u t H9 locs ht hvm hp hB hz1 hk1 hS => ?_)
      subst hp
      obtain ⟨hP, hD⟩ := va_join (wr := [(h, .inr (0, [.ref qf, .ref qd, .ref qi, .ref qs, .ref qr, .ref qc, .ref qg, .ref qh])), (qf, .inr (1, [.ref qfw, .int wl])), (qfw, .inl (cI, 70, .inl fw)), (qi, .inr (3, [.ref qiw])), (qiw, .inl (cI, 16, .inl iw)), (qs, .inr (4, [.ref gm, .ref gs, .ref gc, .int sl])), (gm, .inl (cI, 32, .inl ms)), (gs, .inl (cI, 64, .inl sc)), (gc, .inl (cI, 8, .inl ch)), (qc, .inl (cI, 2, .inl cn)), (qh, .inl (cI, 8, .inl hh))]) (w1 := []) hP hD [] [0, 1, 2, 3, 4, 5, 6, 7, 8, 9, 10] rfl rfl (by decide) (by decide) hk1 hFc (ht ▸ hB.1) hB.2.2
      have hP := hP.sub (ws' := [(h, .inr (0, [.ref qf, .ref qd, .ref qi, .ref qs, .ref qr, .ref qc, .ref qg, .ref qh])), (qf, .inr (1, [.ref qfw, .int wl])), (qfw, .inl (cI, 70, .inl fw)), (qi, .inr (3, [.ref qiw])), (qiw, .inl (cI, 16, .inl iw)), (qs, .inr (4, [.ref gm, .ref gs, .ref gc, .int sl])), (gm, .inl (cI, 32, .inl ms)), (gs, .inl (cI, 64, .inl sc)), (gc, .inl (cI, 8, .inl ch)), (qc, .inl (cI, 2, .inl cn)), (qh, .inl (cI, 8, .inl hh))]) [0, 1, 2, 3, 4, 5, 6, 7, 8, 9, 10] rfl
      have hD := hD.sub (ws' := [(h, .inr (0, [.ref qf, .ref qd, .ref qi, .ref qs, .ref qr, .ref qc, .ref qg, .ref qh])), (qf, .inr (1, [.ref qfw, .int wl])), (qfw, .inl (cI, 70, .inl fw)), (qi, .inr (3, [.ref qiw])), (qiw, .inl (cI, 16, .inl iw)), (qs, .inr (4, [.ref gm, .ref gs, .ref gc, .int sl])), (gm, .inl (cI, 32, .inl ms)), (gs, .inl (cI, 64, .inl sc)), (gc, .inl (cI, 8, .inl ch)), (qc, .inl (cI, 2, .inl cn)), (qh, .inl (cI, 8, .inl hh))]) [0, 1, 2, 3, 4, 5, 6, 7, 8, 9, 10] (by decide) rfl
      generalize H9 = H at hP hS ⊢
      have hPc := hP.sub (ws' := [(qf, .inr (1, [.ref qfw, .int wl])), (qfw, .inl (cI, 70, .inl fw))]) [1, 2] rfl
      have hDc := hD.sub (ws' := [(qf, .inr (1, [.ref qfw, .int wl])), (qfw, .inl (cI, 70, .inl fw))]) [1, 2] (by decide) rfl
      have hFc := va_free (wc := [(qf, .inr (1, [.ref qfw, .int wl])), (qfw, .inl (cI, 70, .inl fw))]) hD hS hA [1, 2] rfl
      refine va_calli (va_runV (As := [.int (f_SB_withTrial (f_FL_heldState wl fw) sg ((f_SB_triesLeft (f_FL_heldState wl fw) sg) - (1 : Int32)))]) (rest := []) ⟨hx, hb, hml, hown, hts⟩ (c_FL_writeRecord l dC dI cI cJ qf qfw _ (f_SB_withTrial (f_FL_heldState wl fw) sg ((f_SB_triesLeft (f_FL_heldState wl fw) sg) - (1 : Int32))) wl fw) ⟨callB_of 1 hts (bc_good gw_283) rfl rfl rfl (hts _ gw_2) (hts _ gw_280) (by decide +kernel) ⟨Nat.le_of_ble_eq_true rfl, Nat.le_of_ble_eq_true rfl⟩, (hts _ gw_281), (hts _ gw_282)⟩ ⟨bc_blind, va_recv (q0 := 1) hK hP (q := (R_FL, F_FL, 2)) rfl rfl, fun U hU hW => ⟨rfl, bc_give hPc hDc hK hE hS hFc U hU hW⟩⟩ rfl rfl hl.1 rfl (lv_room (Nat.le_of_ble_eq_true rfl)) d_BC_slotOnTrial_47 ⟨Nat.le_of_ble_eq_true rfl, Nat.le_of_ble_eq_true rfl⟩) hS (fun q _ h => hFc q h) hFc (fun r u t H9 locs ht hvm hp hB hz1 hk1 hS => ?_)
      subst hp
      obtain ⟨hP, hD⟩ := va_join (wr := [(h, .inr (0, [.ref qf, .ref qd, .ref qi, .ref qs, .ref qr, .ref qc, .ref qg, .ref qh])), (qi, .inr (3, [.ref qiw])), (qiw, .inl (cI, 16, .inl iw)), (qs, .inr (4, [.ref gm, .ref gs, .ref gc, .int sl])), (gm, .inl (cI, 32, .inl ms)), (gs, .inl (cI, 64, .inl sc)), (gc, .inl (cI, 8, .inl ch)), (qc, .inl (cI, 2, .inl cn)), (qh, .inl (cI, 8, .inl hh))]) (w1 := [(qf, .inr (1, [.ref qfw, .int ((f_FL_writeRecord (f_SB_withTrial (f_FL_heldState wl fw) sg ((f_SB_triesLeft (f_FL_heldState wl fw) sg) - (1 : Int32))) wl fw).2.1)])), (qfw, .inl (cI, 70, .inl ((f_FL_writeRecord (f_SB_withTrial (f_FL_heldState wl fw) sg ((f_SB_triesLeft (f_FL_heldState wl fw) sg) - (1 : Int32))) wl fw).2.2)))]) hP hD [1, 2] [0, 3, 4, 5, 6, 7, 8, 9, 10] rfl rfl (by decide) (by decide) hk1 hFc (ht ▸ hB.1) hB.2.2
      have hP := hP.sub (ws' := [(h, .inr (0, [.ref qf, .ref qd, .ref qi, .ref qs, .ref qr, .ref qc, .ref qg, .ref qh])), (qf, .inr (1, [.ref qfw, .int ((f_FL_writeRecord (f_SB_withTrial (f_FL_heldState wl fw) sg ((f_SB_triesLeft (f_FL_heldState wl fw) sg) - (1 : Int32))) wl fw).2.1)])), (qfw, .inl (cI, 70, .inl ((f_FL_writeRecord (f_SB_withTrial (f_FL_heldState wl fw) sg ((f_SB_triesLeft (f_FL_heldState wl fw) sg) - (1 : Int32))) wl fw).2.2))), (qi, .inr (3, [.ref qiw])), (qiw, .inl (cI, 16, .inl iw)), (qs, .inr (4, [.ref gm, .ref gs, .ref gc, .int sl])), (gm, .inl (cI, 32, .inl ms)), (gs, .inl (cI, 64, .inl sc)), (gc, .inl (cI, 8, .inl ch)), (qc, .inl (cI, 2, .inl cn)), (qh, .inl (cI, 8, .inl hh))]) [0, 9, 10, 1, 2, 3, 4, 5, 6, 7, 8] rfl
      have hD := hD.sub (ws' := [(h, .inr (0, [.ref qf, .ref qd, .ref qi, .ref qs, .ref qr, .ref qc, .ref qg, .ref qh])), (qf, .inr (1, [.ref qfw, .int ((f_FL_writeRecord (f_SB_withTrial (f_FL_heldState wl fw) sg ((f_SB_triesLeft (f_FL_heldState wl fw) sg) - (1 : Int32))) wl fw).2.1)])), (qfw, .inl (cI, 70, .inl ((f_FL_writeRecord (f_SB_withTrial (f_FL_heldState wl fw) sg ((f_SB_triesLeft (f_FL_heldState wl fw) sg) - (1 : Int32))) wl fw).2.2))), (qi, .inr (3, [.ref qiw])), (qiw, .inl (cI, 16, .inl iw)), (qs, .inr (4, [.ref gm, .ref gs, .ref gc, .int sl])), (gm, .inl (cI, 32, .inl ms)), (gs, .inl (cI, 64, .inl sc)), (gc, .inl (cI, 8, .inl ch)), (qc, .inl (cI, 2, .inl cn)), (qh, .inl (cI, 8, .inl hh))]) [0, 9, 10, 1, 2, 3, 4, 5, 6, 7, 8] (by decide) rfl
      generalize H9 = H at hP hS ⊢
      have e0 : (f_BC_slotOnTrial sg wl fw iw sl ms sc ch cn hh) = f_BC_slotOnTrial_c1 sg wl fw iw sl ms sc ch cn hh (f_FL_writeRecord (f_SB_withTrial (f_FL_heldState wl fw) sg ((f_SB_triesLeft (f_FL_heldState wl fw) sg) - (1 : Int32))) wl fw) := by rw [f_BC_slotOnTrial, if_neg h6, if_neg h7]
      rw [e0]
      generalize hu1 : (f_FL_writeRecord (f_SB_withTrial (f_FL_heldState wl fw) sg ((f_SB_triesLeft (f_FL_heldState wl fw) sg) - (1 : Int32))) wl fw) = u1 at hP hD ⊢
      have hP : va_P (dC, dI) classes [(h, .inr (0, [.ref qf, .ref qd, .ref qi, .ref qs, .ref qr, .ref qc, .ref qg, .ref qh])), (qf, .inr (1, [.ref qfw, .int (u1.2.1)])), (qfw, .inl (cI, 70, .inl (u1.2.2))), (qi, .inr (3, [.ref qiw])), (qiw, .inl (cI, 16, .inl iw)), (qs, .inr (4, [.ref gm, .ref gs, .ref gc, .int sl])), (gm, .inl (cI, 32, .inl ms)), (gs, .inl (cI, 64, .inl sc)), (gc, .inl (cI, 8, .inl ch)), (qc, .inl (cI, 2, .inl cn)), (qh, .inl (cI, 8, .inl hh))] H := hP
      have hD : va_D A [(h, .inr (0, [.ref qf, .ref qd, .ref qi, .ref qs, .ref qr, .ref qc, .ref qg, .ref qh])), (qf, .inr (1, [.ref qfw, .int (u1.2.1)])), (qfw, .inl (cI, 70, .inl (u1.2.2))), (qi, .inr (3, [.ref qiw])), (qiw, .inl (cI, 16, .inl iw)), (qs, .inr (4, [.ref gm, .ref gs, .ref gc, .int sl])), (gm, .inl (cI, 32, .inl ms)), (gs, .inl (cI, 64, .inl sc)), (gc, .inl (cI, 8, .inl ch)), (qc, .inl (cI, 2, .inl cn)), (qh, .inl (cI, 8, .inl hh))] := hD
      refine lv_if_ne (tgt := 56) hx hb d_BC_slotOnTrial_50 (by decide) (fun h8 => ?_) (fun h8 => ?_)
      · refine lv_aload_n hx hb d_BC_slotOnTrial_56 rfl (lv_at hl 3 rfl) ?_
        refine lv_iload hx hb d_BC_slotOnTrial_57 (lv_at hl 0 rfl) ?_
        refine lv_iload_n hx hb d_BC_slotOnTrial_59 rfl (lv_at hl 4 rfl) ?_
        have hPc := hP.sub (ws' := [(h, .inr (0, [.ref qf, .ref qd, .ref qi, .ref qs, .ref qr, .ref qc, .ref qg, .ref qh])), (qf, .inr (1, [.ref qfw, .int (u1.2.1)])), (qfw, .inl (cI, 70, .inl (u1.2.2))), (qi, .inr (3, [.ref qiw])), (qiw, .inl (cI, 16, .inl iw)), (qs, .inr (4, [.ref gm, .ref gs, .ref gc, .int sl])), (gm, .inl (cI, 32, .inl ms)), (gs, .inl (cI, 64, .inl sc)), (gc, .inl (cI, 8, .inl ch)), (qc, .inl (cI, 2, .inl cn)), (qh, .inl (cI, 8, .inl hh))]) [0, 1, 2, 3, 4, 5, 6, 7, 8, 9, 10] rfl
        have hDc := hD.sub (ws' := [(h, .inr (0, [.ref qf, .ref qd, .ref qi, .ref qs, .ref qr, .ref qc, .ref qg, .ref qh])), (qf, .inr (1, [.ref qfw, .int (u1.2.1)])), (qfw, .inl (cI, 70, .inl (u1.2.2))), (qi, .inr (3, [.ref qiw])), (qiw, .inl (cI, 16, .inl iw)), (qs, .inr (4, [.ref gm, .ref gs, .ref gc, .int sl])), (gm, .inl (cI, 32, .inl ms)), (gs, .inl (cI, 64, .inl sc)), (gc, .inl (cI, 8, .inl ch)), (qc, .inl (cI, 2, .inl cn)), (qh, .inl (cI, 8, .inl hh))]) [0, 1, 2, 3, 4, 5, 6, 7, 8, 9, 10] (by decide) rfl
        have hFc := va_free (wc := [(h, .inr (0, [.ref qf, .ref qd, .ref qi, .ref qs, .ref qr, .ref qc, .ref qg, .ref qh])), (qf, .inr (1, [.ref qfw, .int (u1.2.1)])), (qfw, .inl (cI, 70, .inl (u1.2.2))), (qi, .inr (3, [.ref qiw])), (qiw, .inl (cI, 16, .inl iw)), (qs, .inr (4, [.ref gm, .ref gs, .ref gc, .int sl])), (gm, .inl (cI, 32, .inl ms)), (gs, .inl (cI, 64, .inl sc)), (gc, .inl (cI, 8, .inl ch)), (qc, .inl (cI, 2, .inl cn)), (qh, .inl (cI, 8, .inl hh))]) hD hS hA [0, 1, 2, 3, 4, 5, 6, 7, 8, 9, 10] rfl
        refine va_calli (va_runV (As := [.int (f_SB_otherSlot (f_FL_heldState wl fw) sg), .int sg]) (rest := []) ⟨hx, hb, hml, hown, hts⟩ (c_BC_isGood l dC dI cI cJ h qf qd qi qs qr qc qg qh qfw qiw gm gs gc _ (f_SB_otherSlot (f_FL_heldState wl fw) sg) sg (u1.2.1) (u1.2.2) iw sl ms sc ch cn hh (sl_other hsg) hsg) ⟨callB_of 2 hts (bc_good gw_312) rfl rfl rfl (hts _ gw_1) (hts _ gw_310) (by decide +kernel) ⟨Nat.le_of_ble_eq_true rfl, Nat.le_of_ble_eq_true rfl⟩, (hts _ gw_311), (hts _ gw_699)⟩ ⟨bc_blind, va_recv (q0 := 0) hK hP (q := (R_BC, F_BC, 8)) rfl rfl, fun U hU hW => ⟨rfl, bc_give hPc hDc hK hE hS hFc U hU hW⟩⟩ rfl rfl hl.1 rfl (lv_room (Nat.le_of_ble_eq_true rfl)) d_BC_slotOnTrial_60 ⟨Nat.le_of_ble_eq_true rfl, Nat.le_of_ble_eq_true rfl⟩) hS (fun q _ h => hFc q h) hFc (fun r u t H9 locs ht hvm hp hB hz1 hk1 hS => ?_)
        subst hp
        obtain ⟨hP, hD⟩ := va_join (wr := []) (w1 := [(h, .inr (0, [.ref qf, .ref qd, .ref qi, .ref qs, .ref qr, .ref qc, .ref qg, .ref qh])), (qf, .inr (1, [.ref qfw, .int (u1.2.1)])), (qfw, .inl (cI, 70, .inl (u1.2.2))), (qi, .inr (3, [.ref qiw])), (qiw, .inl (cI, 16, .inl ((f_BC_isGood (f_SB_otherSlot (f_FL_heldState wl fw) sg) sg (u1.2.1) (u1.2.2) iw sl ms sc ch cn hh).2.1))), (qs, .inr (4, [.ref gm, .ref gs, .ref gc, .int ((f_BC_isGood (f_SB_otherSlot (f_FL_heldState wl fw) sg) sg (u1.2.1) (u1.2.2) iw sl ms sc ch cn hh).2.2.1)])), (gm, .inl (cI, 32, .inl ((f_BC_isGood (f_SB_otherSlot (f_FL_heldState wl fw) sg) sg (u1.2.1) (u1.2.2) iw sl ms sc ch cn hh).2.2.2.1))), (gs, .inl (cI, 64, .inl ((f_BC_isGood (f_SB_otherSlot (f_FL_heldState wl fw) sg) sg (u1.2.1) (u1.2.2) iw sl ms sc ch cn hh).2.2.2.2.1))), (gc, .inl (cI, 8, .inl ((f_BC_isGood (f_SB_otherSlot (f_FL_heldState wl fw) sg) sg (u1.2.1) (u1.2.2) iw sl ms sc ch cn hh).2.2.2.2.2.1))), (qc, .inl (cI, 2, .inl cn)), (qh, .inl (cI, 8, .inl ((f_BC_isGood (f_SB_otherSlot (f_FL_heldState wl fw) sg) sg (u1.2.1) (u1.2.2) iw sl ms sc ch cn hh).2.2.2.2.2.2)))]) hP hD [0, 1, 2, 3, 4, 5, 6, 7, 8, 9, 10] [] rfl rfl (by decide) (by decide) hk1 hFc (ht ▸ hB.1) hB.2.2
        have hP := hP.sub (ws' := [(h, .inr (0, [.ref qf, .ref qd, .ref qi, .ref qs, .ref qr, .ref qc, .ref qg, .ref qh])), (qf, .inr (1, [.ref qfw, .int (u1.2.1)])), (qfw, .inl (cI, 70, .inl (u1.2.2))), (qi, .inr (3, [.ref qiw])), (qiw, .inl (cI, 16, .inl ((f_BC_isGood (f_SB_otherSlot (f_FL_heldState wl fw) sg) sg (u1.2.1) (u1.2.2) iw sl ms sc ch cn hh).2.1))), (qs, .inr (4, [.ref gm, .ref gs, .ref gc, .int ((f_BC_isGood (f_SB_otherSlot (f_FL_heldState wl fw) sg) sg (u1.2.1) (u1.2.2) iw sl ms sc ch cn hh).2.2.1)])), (gm, .inl (cI, 32, .inl ((f_BC_isGood (f_SB_otherSlot (f_FL_heldState wl fw) sg) sg (u1.2.1) (u1.2.2) iw sl ms sc ch cn hh).2.2.2.1))), (gs, .inl (cI, 64, .inl ((f_BC_isGood (f_SB_otherSlot (f_FL_heldState wl fw) sg) sg (u1.2.1) (u1.2.2) iw sl ms sc ch cn hh).2.2.2.2.1))), (gc, .inl (cI, 8, .inl ((f_BC_isGood (f_SB_otherSlot (f_FL_heldState wl fw) sg) sg (u1.2.1) (u1.2.2) iw sl ms sc ch cn hh).2.2.2.2.2.1))), (qc, .inl (cI, 2, .inl cn)), (qh, .inl (cI, 8, .inl ((f_BC_isGood (f_SB_otherSlot (f_FL_heldState wl fw) sg) sg (u1.2.1) (u1.2.2) iw sl ms sc ch cn hh).2.2.2.2.2.2)))]) [0, 1, 2, 3, 4, 5, 6, 7, 8, 9, 10] rfl
        have hD := hD.sub (ws' := [(h, .inr (0, [.ref qf, .ref qd, .ref qi, .ref qs, .ref qr, .ref qc, .ref qg, .ref qh])), (qf, .inr (1, [.ref qfw, .int (u1.2.1)])), (qfw, .inl (cI, 70, .inl (u1.2.2))), (qi, .inr (3, [.ref qiw])), (qiw, .inl (cI, 16, .inl ((f_BC_isGood (f_SB_otherSlot (f_FL_heldState wl fw) sg) sg (u1.2.1) (u1.2.2) iw sl ms sc ch cn hh).2.1))), (qs, .inr (4, [.ref gm, .ref gs, .ref gc, .int ((f_BC_isGood (f_SB_otherSlot (f_FL_heldState wl fw) sg) sg (u1.2.1) (u1.2.2) iw sl ms sc ch cn hh).2.2.1)])), (gm, .inl (cI, 32, .inl ((f_BC_isGood (f_SB_otherSlot (f_FL_heldState wl fw) sg) sg (u1.2.1) (u1.2.2) iw sl ms sc ch cn hh).2.2.2.1))), (gs, .inl (cI, 64, .inl ((f_BC_isGood (f_SB_otherSlot (f_FL_heldState wl fw) sg) sg (u1.2.1) (u1.2.2) iw sl ms sc ch cn hh).2.2.2.2.1))), (gc, .inl (cI, 8, .inl ((f_BC_isGood (f_SB_otherSlot (f_FL_heldState wl fw) sg) sg (u1.2.1) (u1.2.2) iw sl ms sc ch cn hh).2.2.2.2.2.1))), (qc, .inl (cI, 2, .inl cn)), (qh, .inl (cI, 8, .inl ((f_BC_isGood (f_SB_otherSlot (f_FL_heldState wl fw) sg) sg (u1.2.1) (u1.2.2) iw sl ms sc ch cn hh).2.2.2.2.2.2)))]) [0, 1, 2, 3, 4, 5, 6, 7, 8, 9, 10] (by decide) rfl
        generalize H9 = H at hP hS ⊢
        have e0 : (f_BC_slotOnTrial_c1 sg wl fw iw sl ms sc ch cn hh u1) = f_BC_slotOnTrial_c2 sg wl fw iw sl ms sc ch cn hh u1 (f_BC_isGood (f_SB_otherSlot (f_FL_heldState wl fw) sg) sg (u1.2.1) (u1.2.2) iw sl ms sc ch cn hh) := by rw [f_BC_slotOnTrial_c1, if_neg h8]
        rw [e0]
        generalize hu2 : (f_BC_isGood (f_SB_otherSlot (f_FL_heldState wl fw) sg) sg (u1.2.1) (u1.2.2) iw sl ms sc ch cn hh) = u2 at hP hD ⊢
        have hP : va_P (dC, dI) classes [(h, .inr (0, [.ref qf, .ref qd, .ref qi, .ref qs, .ref qr, .ref qc, .ref qg, .ref qh])), (qf, .inr (1, [.ref qfw, .int (u1.2.1)])), (qfw, .inl (cI, 70, .inl (u1.2.2))), (qi, .inr (3, [.ref qiw])), (qiw, .inl (cI, 16, .inl (u2.2.1))), (qs, .inr (4, [.ref gm, .ref gs, .ref gc, .int (u2.2.2.1)])), (gm, .inl (cI, 32, .inl (u2.2.2.2.1))), (gs, .inl (cI, 64, .inl (u2.2.2.2.2.1))), (gc, .inl (cI, 8, .inl (u2.2.2.2.2.2.1))), (qc, .inl (cI, 2, .inl cn)), (qh, .inl (cI, 8, .inl (u2.2.2.2.2.2.2)))] H := hP
        have hD : va_D A [(h, .inr (0, [.ref qf, .ref qd, .ref qi, .ref qs, .ref qr, .ref qc, .ref qg, .ref qh])), (qf, .inr (1, [.ref qfw, .int (u1.2.1)])), (qfw, .inl (cI, 70, .inl (u1.2.2))), (qi, .inr (3, [.ref qiw])), (qiw, .inl (cI, 16, .inl (u2.2.1))), (qs, .inr (4, [.ref gm, .ref gs, .ref gc, .int (u2.2.2.1)])), (gm, .inl (cI, 32, .inl (u2.2.2.2.1))), (gs, .inl (cI, 64, .inl (u2.2.2.2.2.1))), (gc, .inl (cI, 8, .inl (u2.2.2.2.2.2.1))), (qc, .inl (cI, 2, .inl cn)), (qh, .inl (cI, 8, .inl (u2.2.2.2.2.2.2)))] := hD
        refine lv_if_eq (tgt := 69) hx hb d_BC_slotOnTrial_63 (by decide) (fun h9 => ?_) (fun h9 => ?_)
        · have e0 : (f_BC_slotOnTrial_c2 sg wl fw iw sl ms sc ch cn hh u1 u2) = f_BC_slotOnTrial_j69 sg wl fw iw sl ms sc ch cn hh (f_FL_heldState wl fw) (u1.2.1) (u1.2.2) (u2.2.1) (u2.2.2.1) (u2.2.2.2.1) (u2.2.2.2.2.1) (u2.2.2.2.2.2.1) (u2.2.2.2.2.2.2) := by rw [f_BC_slotOnTrial_c2, if_pos h9]
          rw [e0]
          exact jn_69 (f_FL_heldState wl fw) (u1.2.1) (u1.2.2) (u2.2.1) (u2.2.2.1) (u2.2.2.2.1) (u2.2.2.2.2.1) (u2.2.2.2.2.2.1) (u2.2.2.2.2.2.2) _ _ ls (lv_sub hl [3, 4, 2] rfl) hP hD hS
        · refine lv_iload hx hb d_BC_slotOnTrial_66 (lv_at hl 0 rfl) ?_
          have e0 : (f_BC_slotOnTrial_c2 sg wl fw iw sl ms sc ch cn hh u1 u2) = ((f_SB_otherSlot (f_FL_heldState wl fw) sg), (u1.2.1), (u1.2.2), (u2.2.1), (u2.2.2.1), (u2.2.2.2.1), (u2.2.2.2.2.1), (u2.2.2.2.2.2.1), (u2.2.2.2.2.2.2)) := by rw [f_BC_slotOnTrial_c2, if_neg h9]
          rw [e0]
          exact W.iret (v := (f_SB_otherSlot (f_FL_heldState wl fw) sg)) hx hb hr (fun t ht hW => ⟨⟨(f_SB_otherSlot (f_FL_heldState wl fw) sg), (), rfl, rfl, by rw [ht]; exact hP, va_K.moved hW.alike hK, hD⟩, hS.F ht⟩) hS.2.2 d_BC_slotOnTrial_68
      · refine lv_bipush (v := (-2)) hx hb d_BC_slotOnTrial_53 (by decide) ?_
        have e0 : (f_BC_slotOnTrial_c1 sg wl fw iw sl ms sc ch cn hh u1) = ((-2 : Int32), (u1.2.1), (u1.2.2), iw, sl, ms, sc, ch, hh) := by rw [f_BC_slotOnTrial_c1, if_pos h8]
        rw [e0]
        exact W.iret (v := (-2 : Int32)) hx hb hr (fun t ht hW => ⟨⟨(-2 : Int32), (), rfl, rfl, by rw [ht]; exact hP, va_K.moved hW.alike hK, hD⟩, hS.F ht⟩) hS.2.2 d_BC_slotOnTrial_55
  · refine lv_iconst (v := (-1)) hx hb d_BC_slotOnTrial_16 (by decide) ?_
    have e0 : (f_BC_slotOnTrial sg wl fw iw sl ms sc ch cn hh) = ((-1 : Int32), wl, fw, iw, sl, ms, sc, ch, hh) := by rw [f_BC_slotOnTrial, if_pos h6]
    rw [e0]
    exact W.iret (v := (-1 : Int32)) hx hb hr (fun t ht hW => ⟨⟨(-1 : Int32), (), rfl, rfl, by rw [ht]; exact hP, va_K.moved hW.alike hK, hD⟩, hS.F ht⟩) hS.2.2 d_BC_slotOnTrial_17
-- BC_slotWithoutTrial
theorem d_BC_slotWithoutTrial_0 : decode prog_1_method_21_code 0 = .ok (.aload_n 0, 1) := by decide +kernel
theorem d_BC_slotWithoutTrial_1 : decode prog_1_method_21_code 1 = .ok (.getfield 10, 3) := by decide +kernel
theorem d_BC_slotWithoutTrial_4 : decode prog_1_method_21_code 4 = .ok (.invokevirtual 82, 3) := by decide +kernel
theorem d_BC_slotWithoutTrial_7 : decode prog_1_method_21_code 7 = .ok (.istore_n 2, 1) := by decide +kernel
theorem d_BC_slotWithoutTrial_8 : decode prog_1_method_21_code 8 = .ok (.iload_n 2, 1) := by decide +kernel
theorem d_BC_slotWithoutTrial_9 : decode prog_1_method_21_code 9 = .ok (.iload_n 1, 1) := by decide +kernel
theorem d_BC_slotWithoutTrial_10 : decode prog_1_method_21_code 10 = .ok (.invokestatic 207, 3) := by decide +kernel
theorem d_BC_slotWithoutTrial_13 : decode prog_1_method_21_code 13 = .ok (.istore_n 3, 1) := by decide +kernel
theorem d_BC_slotWithoutTrial_14 : decode prog_1_method_21_code 14 = .ok (.aload_n 0, 1) := by decide +kernel
theorem d_BC_slotWithoutTrial_15 : decode prog_1_method_21_code 15 = .ok (.iload_n 3, 1) := by decide +kernel
theorem d_BC_slotWithoutTrial_16 : decode prog_1_method_21_code 16 = .ok (.iload_n 1, 1) := by decide +kernel
theorem d_BC_slotWithoutTrial_17 : decode prog_1_method_21_code 17 = .ok (.invokevirtual 201, 3) := by decide +kernel
theorem d_BC_slotWithoutTrial_20 : decode prog_1_method_21_code 20 = .ok (.ifCond .eq 5, 3) := by decide +kernel
theorem d_BC_slotWithoutTrial_23 : decode prog_1_method_21_code 23 = .ok (.iload_n 3, 1) := by decide +kernel
theorem d_BC_slotWithoutTrial_24 : decode prog_1_method_21_code 24 = .ok (.ireturn, 1) := by decide +kernel
theorem d_BC_slotWithoutTrial_25 : decode prog_1_method_21_code 25 = .ok (.iload_n 2, 1) := by decide +kernel
theorem d_BC_slotWithoutTrial_26 : decode prog_1_method_21_code 26 = .ok (.iload_n 1, 1) := by decide +kernel
theorem d_BC_slotWithoutTrial_27 : decode prog_1_method_21_code 27 = .ok (.invokestatic 86, 3) := by decide +kernel
theorem d_BC_slotWithoutTrial_30 : decode prog_1_method_21_code 30 = .ok (.istore 4, 2) := by decide +kernel
theorem d_BC_slotWithoutTrial_32 : decode prog_1_method_21_code 32 = .ok (.aload_n 0, 1) := by decide +kernel
theorem d_BC_slotWithoutTrial_33 : decode prog_1_method_21_code 33 = .ok (.iload 4, 2) := by decide +kernel
theorem d_BC_slotWithoutTrial_35 : decode prog_1_method_21_code 35 = .ok (.iload_n 1, 1) := by decide +kernel
theorem d_BC_slotWithoutTrial_36 : decode prog_1_method_21_code 36 = .ok (.invokevirtual 201, 3) := by decide +kernel
theorem d_BC_slotWithoutTrial_39 : decode prog_1_method_21_code 39 = .ok (.ifCond .eq 8, 3) := by decide +kernel
theorem d_BC_slotWithoutTrial_42 : decode prog_1_method_21_code 42 = .ok (.iload 4, 2) := by decide +kernel
theorem d_BC_slotWithoutTrial_44 : decode prog_1_method_21_code 44 = .ok (.goto 4, 3) := by decide +kernel
theorem d_BC_slotWithoutTrial_47 : decode prog_1_method_21_code 47 = .ok (.iconst (-1), 1) := by decide +kernel
theorem d_BC_slotWithoutTrial_48 : decode prog_1_method_21_code 48 = .ok (.ireturn, 1) := by decide +kernel
def y_BC_slotWithoutTrial : MethodName := ⟨"BootChain", "slotWithoutTrial", "(I)I"⟩
def ws_BC_slotWithoutTrial : List Cond := .code y_BC_slotWithoutTrial prog_1_method_21_code 5 (some .int) :: bc_G
def f_BC_slotWithoutTrial_c2 (sg : Int32) (wl : Int32) (fw : Nat → Int32) (iw : Nat → Int32) (sl : Int32) (ms : Nat → Int32) (sc : Nat → Int32) (ch : Nat → Int32) (cn : Nat → Int32) (hh : Nat → Int32) (u1 : Int32 × (Nat → Int32) × Int32 × (Nat → Int32) × (Nat → Int32) × (Nat → Int32) × (Nat → Int32)) (u2 : Int32 × (Nat → Int32) × Int32 × (Nat → Int32) × (Nat → Int32) × (Nat → Int32) × (Nat → Int32)) : Int32 × (Nat → Int32) × Int32 × (Nat → Int32) × (Nat → Int32) × (Nat → Int32) × (Nat → Int32) := if (u2.1) = 0 then ((-1 : Int32), (u2.2.1), (u2.2.2.1), (u2.2.2.2.1), (u2.2.2.2.2.1), (u2.2.2.2.2.2.1), (u2.2.2.2.2.2.2)) else ((f_SB_otherSlot (f_FL_heldState wl fw) sg), (u2.2.1), (u2.2.2.1), (u2.2.2.2.1), (u2.2.2.2.2.1), (u2.2.2.2.2.2.1), (u2.2.2.2.2.2.2))
def f_BC_slotWithoutTrial_c1 (sg : Int32) (wl : Int32) (fw : Nat → Int32) (iw : Nat → Int32) (sl : Int32) (ms : Nat → Int32) (sc : Nat → Int32) (ch : Nat → Int32) (cn : Nat → Int32) (hh : Nat → Int32) (u1 : Int32 × (Nat → Int32) × Int32 × (Nat → Int32) × (Nat → Int32) × (Nat → Int32) × (Nat → Int32)) : Int32 × (Nat → Int32) × Int32 × (Nat → Int32) × (Nat → Int32) × (Nat → Int32) × (Nat → Int32) := if (u1.1) = 0 then f_BC_slotWithoutTrial_c2 sg wl fw iw sl ms sc ch cn hh u1 (f_BC_isGood (f_SB_otherSlot (f_FL_heldState wl fw) sg) sg wl fw (u1.2.1) (u1.2.2.1) (u1.2.2.2.1) (u1.2.2.2.2.1) (u1.2.2.2.2.2.1) cn (u1.2.2.2.2.2.2)) else ((f_SB_activeSlot (f_FL_heldState wl fw) sg), (u1.2.1), (u1.2.2.1), (u1.2.2.2.1), (u1.2.2.2.2.1), (u1.2.2.2.2.2.1), (u1.2.2.2.2.2.2))
def f_BC_slotWithoutTrial (sg : Int32) (wl : Int32) (fw : Nat → Int32) (iw : Nat → Int32) (sl : Int32) (ms : Nat → Int32) (sc : Nat → Int32) (ch : Nat → Int32) (cn : Nat → Int32) (hh : Nat → Int32) : Int32 × (Nat → Int32) × Int32 × (Nat → Int32) × (Nat → Int32) × (Nat → Int32) × (Nat → Int32) := f_BC_slotWithoutTrial_c1 sg wl fw iw sl ms sc ch cn hh (f_BC_isGood (f_SB_activeSlot (f_FL_heldState wl fw) sg) sg wl fw iw sl ms sc ch cn hh)
set_option maxHeartbeats 4000000 in
set_option maxRecDepth 100000 in
theorem c_BC_slotWithoutTrial (l : Launch) (dC : Nat → ClassId) (dI : Nat → Nat → Nat) (cI cJ : ClassId) (h qf qd qi qs qr qc qg qh qfw qiw gm gs gc : Nat) (sz : Nat) (sg : Int32) (wl : Int32) (fw : Nat → Int32) (iw : Nat → Int32) (sl : Int32) (ms : Nat → Int32) (sc : Nat → Int32) (ch : Nat → Int32) (cn : Nat → Int32) (hh : Nat → Int32) (hsg : sg = 0 ∨ sg = 1) : Met l y_BC_slotWithoutTrial ws_BC_slotWithoutTrial ({ frames := 5, cells := 0, slots := 0, locals := 125 } : Room) (va_Pc [.ref h, .int sg] (bc_pre (dC, dI) cI cJ [(h, .inr (0, [.ref qf, .ref qd, .ref qi, .ref qs, .ref qr, .ref qc, .ref qg, .ref qh])), (qf, .inr (1, [.ref qfw, .int wl])), (qfw, .inl (cI, 70, .inl fw)), (qi, .inr (3, [.ref qiw])), (qiw, .inl (cI, 16, .inl iw)), (qs, .inr (4, [.ref gm, .ref gs, .ref gc, .int sl])), (gm, .inl (cI, 32, .inl ms)), (gs, .inl (cI, 64, .inl sc)), (gc, .inl (cI, 8, .inl ch)), (qc, .inl (cI, 2, .inl cn)), (qh, .inl (cI, 8, .inl hh))] sz)) (va_Qi (fun (r : Int32) (_ : Unit) => r = (f_BC_slotWithoutTrial sg wl fw iw sl ms sc ch cn hh).1) (fun _ => bc_post (dC, dI) cI cJ (va_A [(h, .inr (0, [.ref qf, .ref qd, .ref qi, .ref qs, .ref qr, .ref qc, .ref qg, .ref qh])), (qf, .inr (1, [.ref qfw, .int wl])), (qfw, .inl (cI, 70, .inl fw)), (qi, .inr (3, [.ref qiw])), (qiw, .inl (cI, 16, .inl iw)), (qs, .inr (4, [.ref gm, .ref gs, .ref gc, .int sl])), (gm, .inl (cI, 32, .inl ms)), (gs, .inl (cI, 64, .inl sc)), (gc, .inl (cI, 8, .inl ch)), (qc, .inl (cI, 2, .inl cn)), (qh, .inl (cI, 8, .inl hh))] sz) [(h, .inr (0, [.ref qf, .ref qd, .ref qi, .ref qs, .ref qr, .ref qc, .ref qg, .ref qh])), (qf, .inr (1, [.ref qfw, .int wl])), (qfw, .inl (cI, 70, .inl fw)), (qi, .inr (3, [.ref qiw])), (qiw, .inl (cI, 16, .inl (f_BC_slotWithoutTrial sg wl fw iw sl ms sc ch cn hh).2.1)), (qs, .inr (4, [.ref gm, .ref gs, .ref gc, .int (f_BC_slotWithoutTrial sg wl fw iw sl ms sc ch cn hh).2.2.1])), (gm, .inl (cI, 32, .inl (f_BC_slotWithoutTrial sg wl fw iw sl ms sc ch cn hh).2.2.2.1)), (gs, .inl (cI, 64, .inl (f_BC_slotWithoutTrial sg wl fw iw sl ms sc ch cn hh).2.2.2.2.1)), (gc, .inl (cI, 8, .inl (f_BC_slotWithoutTrial sg wl fw iw sl ms sc ch cn hh).2.2.2.2.2.1)), (qc, .inl (cI, 2, .inl cn)), (qh, .inl (cI, 8, .inl (f_BC_slotWithoutTrial sg wl fw iw sl ms sc ch cn hh).2.2.2.2.2.2))]) (va_A [(h, .inr (0, [.ref qf, .ref qd, .ref qi, .ref qs, .ref qr, .ref qc, .ref qg, .ref qh])), (qf, .inr (1, [.ref qfw, .int wl])), (qfw, .inl (cI, 70, .inl fw)), (qi, .inr (3, [.ref qiw])), (qiw, .inl (cI, 16, .inl iw)), (qs, .inr (4, [.ref gm, .ref gs, .ref gc, .int sl])), (gm, .inl (cI, 32, .inl ms)), (gs, .inl (cI, 64, .inl sc)), (gc, .inl (cI, 8, .inl ch)), (qc, .inl (cI, 2, .inl cn)), (qh, .inl (cI, 8, .inl hh))] sz)) 0 0 (va_A [(h, .inr (0, [.ref qf, .ref qd, .ref qi, .ref qs, .ref qr, .ref qc, .ref qg, .ref qh])), (qf, .inr (1, [.ref qfw, .int wl])), (qfw, .inl (cI, 70, .inl fw)), (qi, .inr (3, [.ref qiw])), (qiw, .inl (cI, 16, .inl iw)), (qs, .inr (4, [.ref gm, .ref gs, .ref gc, .int sl])), (gm, .inl (cI, 32, .inl ms)), (gs, .inl (cI, 64, .inl sc)), (gc, .inl (cI, 8, .inl ch)), (qc, .inl (cI, 2, .inl cn)), (qh, .inl (cI, 8, .inl hh))] sz) := by
  refine Met.ofW (cc := prog_1_method_21_code) (maxL := 5) (ret := (some .int)) (by decide) rfl ?_
  intro p e s m args below meth c s₁ B hml hv
  obtain ⟨rfl, hsz, hP, hK, hD0, hE⟩ := hv
  have hx := B.exec
  have hb := B.bytes
  have hr := B.returns
  have hts : ∀ w ∈ bc_G, w.before ([.ref h, .int sg] : List Value).toArray s = true := fun w h => atoms_spec (ws := ws_BC_slotWithoutTrial) B.pre w (List.mem_cons_of_mem _ h)
  have hown : s.vm.findClass "BootChain" = some m.cls := findClass_of_methodNamed B.named
  have hlocks := B.notSynchronized
  subst hsz
  have hD := hD0.self (sz := s.heap.size)
  generalize hAe : va_A [(h, .inr (0, [.ref qf, .ref qd, .ref qi, .ref qs, .ref qr, .ref qc, .ref qg, .ref qh])), (qf, .inr (1, [.ref qfw, .int wl])), (qfw, .inl (cI, 70, .inl fw)), (qi, .inr (3, [.ref qiw])), (qiw, .inl (cI, 16, .inl iw)), (qs, .inr (4, [.ref gm, .ref gs, .ref gc, .int sl])), (gm, .inl (cI, 32, .inl ms)), (gs, .inl (cI, 64, .inl sc)), (gc, .inl (cI, 8, .inl ch)), (qc, .inl (cI, 2, .inl cn)), (qh, .inl (cI, 8, .inl hh))] s.heap.size = A at hD hE ⊢
  have hA : ∀ q : Nat, s.heap.size ≤ q → A q := fun q h => by rw [← hAe]; exact Or.inr h
  have hS : va_S A s.heap s.heap [] := va_S.rf
  have hl := lv_entry ([.ref h, .int sg]) (n := 5) (Nat.le_of_ble_eq_true rfl)
  rw [lg_entry_eq]
  generalize (lg_sl ([.ref h, .int sg]) ++ List.replicate (5 - (lg_sl ([.ref h, .int sg])).length) Slot.unset).toArray = ls at hl ⊢
  have hl : lv_has ls 5 [(0, .ref h), (1, .int sg)] := hl
  refine lv_aload_n hx hb d_BC_slotWithoutTrial_0 rfl (lv_at hl 0 rfl) ?_
  refine va_get (D := (dC, dI)) (ci := 0) (v := .ref qf) (C := R_BC) (T := F_BC) (N := 8) hx hb hts in_BC hown hK hP 0 rfl rfl 0 (by decide) (hts _ gw_65) (fun _ h9 => h9) rfl d_BC_slotWithoutTrial_1 ?_
  have hPc := hP.sub (ws' := [(qf, .inr (1, [.ref qfw, .int wl])), (qfw, .inl (cI, 70, .inl fw))]) [1, 2] rfl
  have hDc := hD.sub (ws' := [(qf, .inr (1, [.ref qfw, .int wl])), (qfw, .inl (cI, 70, .inl fw))]) [1, 2] (by decide) rfl
  have hFc := va_free (wc := [(qf, .inr (1, [.ref qfw, .int wl])), (qfw, .inl (cI, 70, .inl fw))]) hD hS hA [1, 2] rfl
  refine va_calli (va_runV (As := []) (rest := []) ⟨hx, hb, hml, hown, hts⟩ (c_FL_heldState l dC dI cI cJ qf qfw _ wl fw) ⟨callB_of 0 hts (bc_good gw_89) rfl rfl rfl (hts _ gw_2) (hts _ gw_86) (by decide +kernel) ⟨Nat.le_of_ble_eq_true rfl, Nat.le_of_ble_eq_true rfl⟩, (hts _ gw_87), (hts _ gw_88)⟩ ⟨bc_blind, va_recv (q0 := 1) hK hP (q := (R_FL, F_FL, 2)) rfl rfl, fun U hU hW => ⟨rfl, bc_give hPc hDc hK hE hS hFc U hU hW⟩⟩ rfl rfl hl.1 rfl (lv_room (Nat.le_of_ble_eq_true rfl)) d_BC_slotWithoutTrial_4 ⟨Nat.le_of_ble_eq_true rfl, Nat.le_of_ble_eq_true rfl⟩) hS (fun q _ h => hFc q h) hFc (fun r u t H9 locs ht hvm hp hB hz1 hk1 hS => ?_)
  subst hp
  obtain ⟨hP, hD⟩ := va_join (wr := [(h, .inr (0, [.ref qf, .ref qd, .ref qi, .ref qs, .ref qr, .ref qc, .ref qg, .ref qh])), (qi, .inr (3, [.ref qiw])), (qiw, .inl (cI, 16, .inl iw)), (qs, .inr (4, [.ref gm, .ref gs, .ref gc, .int sl])), (gm, .inl (cI, 32, .inl ms)), (gs, .inl (cI, 64, .inl sc)), (gc, .inl (cI, 8, .inl ch)), (qc, .inl (cI, 2, .inl cn)), (qh, .inl (cI, 8, .inl hh))]) (w1 := [(qf, .inr (1, [.ref qfw, .int wl])), (qfw, .inl (cI, 70, .inl fw))]) hP hD [1, 2] [0, 3, 4, 5, 6, 7, 8, 9, 10] rfl rfl (by decide) (by decide) hk1 hFc (ht ▸ hB.1) hB.2.2
  have hP := hP.sub (ws' := [(h, .inr (0, [.ref qf, .ref qd, .ref qi, .ref qs, .ref qr, .ref qc, .ref qg, .ref qh])), (qf, .inr (1, [.ref qfw, .int wl])), (qfw, .inl (cI, 70, .inl fw)), (qi, .inr (3, [.ref qiw])), (qiw, .inl (cI, 16, .inl iw)), (qs, .inr (4, [.ref gm, .ref gs, .ref gc, .int sl])), (gm, .inl (cI, 32, .inl ms)), (gs, .inl (cI, 64, .inl sc)), (gc, .inl (cI, 8, .inl ch)), (qc, .inl (cI, 2, .inl cn)), (qh, .inl (cI, 8, .inl hh))]) [0, 9, 10, 1, 2, 3, 4, 5, 6, 7, 8] rfl
  have hD := hD.sub (ws' := [(h, .inr (0, [.ref qf, .ref qd, .ref qi, .ref qs, .ref qr, .ref qc, .ref qg, .ref qh])), (qf, .inr (1, [.ref qfw, .int wl])), (qfw, .inl (cI, 70, .inl fw)), (qi, .inr (3, [.ref qiw])), (qiw, .inl (cI, 16, .inl iw)), (qs, .inr (4, [.ref gm, .ref gs, .ref gc, .int sl])), (gm, .inl (cI, 32, .inl ms)), (gs, .inl (cI, 64, .inl sc)), (gc, .inl (cI, 8, .inl ch)), (qc, .inl (cI, 2, .inl cn)), (qh, .inl (cI, 8, .inl hh))]) [0, 9, 10, 1, 2, 3, 4, 5, 6, 7, 8] (by decide) rfl
  generalize H9 = H at hP hS ⊢
  refine lv_istore_n (lv' := [(2, .int (f_FL_heldState wl fw)), (0, .ref h), (1, .int sg)]) hx hb d_BC_slotWithoutTrial_7 rfl hl (by decide) rfl (fun ls hl => ?_)
  refine lv_iload_n hx hb d_BC_slotWithoutTrial_8 rfl (lv_at hl 0 rfl) ?_
  refine lv_iload_n hx hb d_BC_slotWithoutTrial_9 rfl (lv_at hl 2 rfl) ?_
  have hPc := hP.sub (ws' := []) [] rfl
  have hDc := hD.sub (ws' := []) [] (by decide) rfl
  have hFc := va_free (wc := []) hD hS hA [] rfl
  refine va_calli (va_runS (As := [.int (f_FL_heldState wl fw), .int sg]) (rest := []) ⟨hx, hb, hml, hown, hts⟩ (c_SB_activeSlot l dC dI cI cJ _ (f_FL_heldState wl fw) sg) ⟨callB_of 2 hts (bc_good gw_262) rfl rfl rfl (hts _ gw_12) (hts _ gw_340) (by decide +kernel) ⟨Nat.le_of_ble_eq_true rfl, Nat.le_of_ble_eq_true rfl⟩, (hts _ gw_261)⟩ ⟨bc_blind, fun U hU hW => ⟨rfl, bc_give hPc hDc hK hE hS hFc U hU hW⟩⟩ rfl rfl hl.1 rfl (lv_room (Nat.le_of_ble_eq_true rfl)) d_BC_slotWithoutTrial_10 ⟨Nat.le_of_ble_eq_true rfl, Nat.le_of_ble_eq_true rfl⟩) hS (fun q _ h => hFc q h) hFc (fun r u t H9 locs ht hvm hp hB hz1 hk1 hS => ?_)
  subst hp
  obtain ⟨hP, hD⟩ := va_join (wr := [(h, .inr (0, [.ref qf, .ref qd, .ref qi, .ref qs, .ref qr, .ref qc, .ref qg, .ref qh])), (qf, .inr (1, [.ref qfw, .int wl])), (qfw, .inl (cI, 70, .inl fw)), (qi, .inr (3, [.ref qiw])), (qiw, .inl (cI, 16, .inl iw)), (qs, .inr (4, [.ref gm, .ref gs, .ref gc, .int sl])), (gm, .inl (cI, 32, .inl ms)), (gs, .inl (cI, 64, .inl sc)), (gc, .inl (cI, 8, .inl ch)), (qc, .inl (cI, 2, .inl cn)), (qh, .inl (cI, 8, .inl hh))]) (w1 := []) hP hD [] [0, 1, 2, 3, 4, 5, 6, 7, 8, 9, 10] rfl rfl (by decide) (by decide) hk1 hFc (ht ▸ hB.1) hB.2.2
  have hP := hP.sub (ws' := [(h, .inr (0, [.ref qf, .ref qd, .ref qi, .ref qs, .ref qr, .ref qc, .ref qg, .ref qh])), (qf, .inr (1, [.ref qfw, .int wl])), (qfw, .inl (cI, 70, .inl fw)), (qi, .inr (3, [.ref qiw])), (qiw, .inl (cI, 16, .inl iw)), (qs, .inr (4, [.ref gm, .ref gs, .ref gc, .int sl])), (gm, .inl (cI, 32, .inl ms)), (gs, .inl (cI, 64, .inl sc)), (gc, .inl (cI, 8, .inl ch)), (qc, .inl (cI, 2, .inl cn)), (qh, .inl (cI, 8, .inl hh))]) [0, 1, 2, 3, 4, 5, 6, 7, 8, 9, 10] rfl
  have hD := hD.sub (ws' := [(h, .inr (0, [.ref qf, .ref qd, .ref qi, .ref qs, .ref qr, .ref qc, .ref qg, .ref qh])), (qf, .inr (1, [.ref qfw, .int wl])), (qfw, .inl (cI, 70, .inl fw)), (qi, .inr (3, [.ref qiw])), (qiw, .inl (cI, 16, .inl iw)), (qs, .inr (4, [.ref gm, .ref gs, .ref gc, .int sl])), (gm, .inl (cI, 32, .inl ms)), (gs, .inl (cI, 64, .inl sc)), (gc, .inl (cI, 8, .inl ch)), (qc, .inl (cI, 2, .inl cn)), (qh, .inl (cI, 8, .inl hh))]) [0, 1, 2, 3, 4, 5, 6, 7, 8, 9, 10] (by decide) rfl
  generalize H9 = H at hP hS ⊢
  refine lv_istore_n (lv' := [(3, .int (f_SB_activeSlot (f_FL_heldState wl fw) sg)), (2, .int (f_FL_heldState wl fw)), (0, .ref h), (1, .int sg)]) hx hb d_BC_slotWithoutTrial_13 rfl hl (by decide) rfl (fun ls hl => ?_)
  refine lv_aload_n hx hb d_BC_slotWithoutTrial_14 rfl (lv_at hl 2 rfl) ?_
  refine lv_iload_n hx hb d_BC_slotWithoutTrial_15 rfl (lv_at hl 0 rfl) ?_
  refine lv_iload_n hx hb d_BC_slotWithoutTrial_16 rfl (lv_at hl 3 rfl) ?_
  have hPc := hP.sub (ws' := [(h, .inr (0, [.ref qf, .ref qd, .ref qi, .ref qs, .ref qr, .ref qc, .ref qg, .ref qh])), (qf, .inr (1, [.ref qfw, .int wl])), (qfw, .inl (cI, 70, .inl fw)), (qi, .inr (3, [.ref qiw])), (qiw, .inl (cI, 16, .inl iw)), (qs, .inr (4, [.ref gm, .ref gs, .ref gc, .int sl])), (gm, .inl (cI, 32, .inl ms)), (gs, .inl (cI, 64, .inl sc)), (gc, .inl (cI, 8, .inl ch)), (qc, .inl (cI, 2, .inl cn)), (qh, .inl (cI, 8, .inl hh))]) [0, 1, 2, 3, 4, 5, 6, 7, 8, 9, 10] rfl
  have hDc := hD.sub (ws' := [(h, .inr (0, [.ref qf, .ref qd, .ref qi, .ref qs, .ref qr, .ref qc, .ref qg, .ref qh])), (qf, .inr (1, [.ref qfw, .int wl])), (qfw, .inl (cI, 70, .inl fw)), (qi, .inr (3, [.ref qiw])), (qiw, .inl (cI, 16, .inl iw)), (qs, .inr (4, [.ref gm, .ref gs, .ref gc, .int sl])), (gm, .inl (cI, 32, .inl ms)), (gs, .inl (cI, 64, .inl sc)), (gc, .inl (cI, 8, .inl ch)), (qc, .inl (cI, 2, .inl cn)), (qh, .inl (cI, 8, .inl hh))]) [0, 1, 2, 3, 4, 5, 6, 7, 8, 9, 10] (by decide) rfl
  have hFc := va_free (wc := [(h, .inr (0, [.ref qf, .ref qd, .ref qi, .ref qs, .ref qr, .ref qc, .ref qg, .ref qh])), (qf, .inr (1, [.ref qfw, .int wl])), (qfw, .inl (cI, 70, .inl fw)), (qi, .inr (3, [.ref qiw])), (qiw, .inl (cI, 16, .inl iw)), (qs, .inr (4, [.ref gm, .ref gs, .ref gc, .int sl])), (gm, .inl (cI, 32, .inl ms)), (gs, .inl (cI, 64, .inl sc)), (gc, .inl (cI, 8, .inl ch)), (qc, .inl (cI, 2, .inl cn)), (qh, .inl (cI, 8, .inl hh))]) hD hS hA [0, 1, 2, 3, 4, 5, 6, 7, 8, 9, 10] rfl
  refine va_calli (va_runV (As := [.int (f_SB_activeSlot (f_FL_heldState wl fw) sg), .int sg]) (rest := []) ⟨hx, hb, hml, hown, hts⟩ (c_BC_isGood l dC dI cI cJ h qf qd qi qs qr qc qg qh qfw qiw gm gs gc _ (f_SB_activeSlot (f_FL_heldState wl fw) sg) sg wl fw iw sl ms sc ch cn hh (sl_active hsg) hsg) ⟨callB_of 2 hts (bc_good gw_312) rfl rfl rfl (hts _ gw_1) (hts _ gw_310) (by decide +kernel) ⟨Nat.le_of_ble_eq_true rfl, Nat.le_of_ble_eq_true rfl⟩, (hts _ gw_311), (hts _ gw_699)⟩ ⟨bc_blind, va_recv (q0 := 0) hK hP (q := (R_BC, F_BC, 8)) rfl rfl, fun U hU hW => ⟨rfl, bc_give hPc hDc hK hE hS hFc U hU hW⟩⟩ rfl rfl hl.1 rfl (lv_room (Nat.le_of_ble_eq_true rfl)) d_BC_slotWithoutTrial_17 ⟨Nat.le_of_ble_eq_true rfl, Nat.le_of_ble_eq_true rfl⟩) hS (fun q _ h => hFc q h) hFc (fun r u t H9 locs ht hvm hp hB hz1 hk1 hS => ?_)
  subst hp
  obtain ⟨hP, hD⟩ := va_join (wr := []) (w1 := [(h, .inr (0, [.ref qf, .ref qd, .ref qi, .ref qs, .ref qr, .ref qc, .ref qg, .ref qh])), (qf, .inr (1, [.ref qfw, .int wl])), (qfw, .inl (cI, 70, .inl fw)), (qi, .inr (3, [.ref qiw])), (qiw, .inl (cI, 16, .inl ((f_BC_isGood (f_SB_activeSlot (f_FL_heldState wl fw) sg) sg wl fw iw sl ms sc ch cn hh).2.1))), (qs, .inr (4, [.ref gm, .ref gs, .ref gc, .int ((f_BC_isGood (f_SB_activeSlot (f_FL_heldState wl fw) sg) sg wl fw iw sl ms sc ch cn hh).2.2.1)])), (gm, .inl (cI, 32, .inl ((f_BC_isGood (f_SB_activeSlot (f_FL_heldState wl fw) sg) sg wl fw iw sl ms sc ch cn hh).2.2.2.1))), (gs, .inl (cI, 64, .inl ((f_BC_isGood (f_SB_activeSlot (f_FL_heldState wl fw) sg) sg wl fw iw sl ms sc ch cn hh).2.2.2.2.1))), (gc, .inl (cI, 8, .inl ((f_BC_isGood (f_SB_activeSlot (f_FL_heldState wl fw) sg) sg wl fw iw sl ms sc ch cn hh).2.2.2.2.2.1))), (qc, .inl (cI, 2, .inl cn)), (qh, .inl (cI, 8, .inl ((f_BC_isGood (f_SB_activeSlot (f_FL_heldState wl fw) sg) sg wl fw iw sl ms sc ch cn hh).2.2.2.2.2.2)))]) hP hD [0, 1, 2, 3, 4, 5, 6, 7, 8, 9, 10] [] rfl rfl (by decide) (by decide) hk1 hFc (ht ▸ hB.1) hB.2.2
  have hP := hP.sub (ws' := [(h, .inr (0, [.ref qf, .ref qd, .ref qi, .ref qs, .ref qr, .ref qc, .ref qg, .ref qh])), (qf, .inr (1, [.ref qfw, .int wl])), (qfw, .inl (cI, 70, .inl fw)), (qi, .inr (3, [.ref qiw])), (qiw, .inl (cI, 16, .inl ((f_BC_isGood (f_SB_activeSlot (f_FL_heldState wl fw) sg) sg wl fw iw sl ms sc ch cn hh).2.1))), (qs, .inr (4, [.ref gm, .ref gs, .ref gc, .int ((f_BC_isGood (f_SB_activeSlot (f_FL_heldState wl fw) sg) sg wl fw iw sl ms sc ch cn hh).2.2.1)])), (gm, .inl (cI, 32, .inl ((f_BC_isGood (f_SB_activeSlot (f_FL_heldState wl fw) sg) sg wl fw iw sl ms sc ch cn hh).2.2.2.1))), (gs, .inl (cI, 64, .inl ((f_BC_isGood (f_SB_activeSlot (f_FL_heldState wl fw) sg) sg wl fw iw sl ms sc ch cn hh).2.2.2.2.1))), (gc, .inl (cI, 8, .inl ((f_BC_isGood (f_SB_activeSlot (f_FL_heldState wl fw) sg) sg wl fw iw sl ms sc ch cn hh).2.2.2.2.2.1))), (qc, .inl (cI, 2, .inl cn)), (qh, .inl (cI, 8, .inl ((f_BC_isGood (f_SB_activeSlot (f_FL_heldState wl fw) sg) sg wl fw iw sl ms sc ch cn hh).2.2.2.2.2.2)))]) [0, 1, 2, 3, 4, 5, 6, 7, 8, 9, 10] rfl
  have hD := hD.sub (ws' := [(h, .inr (0, [.ref qf, .ref qd, .ref qi, .ref qs, .ref qr, .ref qc, .ref qg, .ref qh])), (qf, .inr (1, [.ref qfw, .int wl])), (qfw, .inl (cI, 70, .inl fw)), (qi, .inr (3, [.ref qiw])), (qiw, .inl (cI, 16, .inl ((f_BC_isGood (f_SB_activeSlot (f_FL_heldState wl fw) sg) sg wl fw iw sl ms sc ch cn hh).2.1))), (qs, .inr (4, [.ref gm, .ref gs, .ref gc, .int ((f_BC_isGood (f_SB_activeSlot (f_FL_heldState wl fw) sg) sg wl fw iw sl ms sc ch cn hh).2.2.1)])), (gm, .inl (cI, 32, .inl ((f_BC_isGood (f_SB_activeSlot (f_FL_heldState wl fw) sg) sg wl fw iw sl ms sc ch cn hh).2.2.2.1))), (gs, .inl (cI, 64, .inl ((f_BC_isGood (f_SB_activeSlot (f_FL_heldState wl fw) sg) sg wl fw iw sl ms sc ch cn hh).2.2.2.2.1))), (gc, .inl (cI, 8, .inl ((f_BC_isGood (f_SB_activeSlot (f_FL_heldState wl fw) sg) sg wl fw iw sl ms sc ch cn hh).2.2.2.2.2.1))), (qc, .inl (cI, 2, .inl cn)), (qh, .inl (cI, 8, .inl ((f_BC_isGood (f_SB_activeSlot (f_FL_heldState wl fw) sg) sg wl fw iw sl ms sc ch cn hh).2.2.2.2.2.2)))]) [0, 1, 2, 3, 4, 5, 6, 7, 8, 9, 10] (by decide) rfl
  generalize H9 = H at hP hS ⊢
  have e0 : (f_BC_slotWithoutTrial sg wl fw iw sl ms sc ch cn hh) = f_BC_slotWithoutTrial_c1 sg wl fw iw sl ms sc ch cn hh (f_BC_isGood (f_SB_activeSlot (f_FL_heldState wl fw) sg) sg wl fw iw sl ms sc ch cn hh) := by rw [f_BC_slotWithoutTrial]
  rw [e0]
  generalize hu1 : (f_BC_isGood (f_SB_activeSlot (f_FL_heldState wl fw) sg) sg wl fw iw sl ms sc ch cn hh) = u1 at hP hD ⊢
  have hP : va_P (dC, dI) classes [(h, .inr (0, [.ref qf, .ref qd, .ref qi, .ref qs, .ref qr, .ref qc, .ref qg, .ref qh])), (qf, .inr (1, [.ref qfw, .int wl])), (qfw, .inl (cI, 70, .inl fw)), (qi, .inr (3, [.ref qiw])), (qiw, .inl (cI, 16, .inl (u1.2.1))), (qs, .inr (4, [.ref gm, .ref gs, .ref gc, .int (u1.2.2.1)])), (gm, .inl (cI, 32, .inl (u1.2.2.2.1))), (gs, .inl (cI, 64, .inl (u1.2.2.2.2.1))), (gc, .inl (cI, 8, .inl (u1.2.2.2.2.2.1))), (qc, .inl (cI, 2, .inl cn)), (qh, .inl (cI, 8, .inl (u1.2.2.2.2.2.2)))] H := hP
  have hD : va_D A [(h, .inr (0, [.ref qf, .ref qd, .ref qi, .ref qs, .ref qr, .ref qc, .ref qg, .ref qh])), (qf, .inr (1, [.ref qfw, .int wl])), (qfw, .inl (cI, 70, .inl fw)), (qi, .inr (3, [.ref qiw])), (qiw, .inl (cI, 16, .inl (u1.2.1))), (qs, .inr (4, [.ref gm, .ref gs, .ref gc, .int (u1.2.2.1)])), (gm, .inl (cI, 32, .inl (u1.2.2.2.1))), (gs, .inl (cI, 64, .inl (u1.2.2.2.2.1))), (gc, .inl (cI, 8, .inl (u1.2.2.2.2.2.1))), (qc, .inl (cI, 2, .inl cn)), (qh, .inl (cI, 8, .inl (u1.2.2.2.2.2.2)))] := hD
  refine lv_if_eq (tgt := 25) hx hb d_BC_slotWithoutTrial_20 (by decide) (fun h3 => ?_) (fun h3 => ?_)
  · refine lv_iload_n hx hb d_BC_slotWithoutTrial_25 rfl (lv_at hl 1 rfl) ?_
    refine lv_iload_n hx hb d_BC_slotWithoutTrial_26 rfl (lv_at hl 3 rfl) ?_
    have hPc := hP.sub (ws' := []) [] rfl
    have hDc := hD.sub (ws' := []) [] (by decide) rfl
    have hFc := va_free (wc := []) hD hS hA [] rfl
    refine va_calli (va_runS (As := [.int (f_FL_heldState wl fw), .int sg]) (rest := []) ⟨hx, hb, hml, hown, hts⟩ (c_SB_otherSlot l dC dI cI cJ _ (f_FL_heldState wl fw) sg) ⟨callB_of 2 hts (bc_good gw_259) rfl rfl rfl (hts _ gw_12) (hts _ gw_257) (by decide +kernel) ⟨Nat.le_of_ble_eq_true rfl, Nat.le_of_ble_eq_true rfl⟩, (hts _ gw_258)⟩ ⟨bc_blind, fun U hU hW => ⟨rfl, bc_give hPc hDc hK hE hS hFc U hU hW⟩⟩ rfl rfl hl.1 rfl (lv_room (Nat.le_of_ble_eq_true rfl)) d_BC_slotWithoutTrial_27 ⟨Nat.le_of_ble_eq_true rfl, Nat.le_of_ble_eq_true rfl⟩) hS (fun q _ h => hFc q h) hFc (fun r u t H9 locs ht hvm hp hB hz1 hk1 hS => ?_)
    subst hp
    obtain ⟨hP, hD⟩ := va_join (wr := [(h, .inr (0, [.ref qf, .ref qd, .ref qi, .ref qs, .ref qr, .ref qc, .ref qg, .ref qh])), (qf, .inr (1, [.ref qfw, .int wl])), (qfw, .inl (cI, 70, .inl fw)), (qi, .inr (3, [.ref qiw])), (qiw, .inl (cI, 16, .inl (u1.2.1))), (qs, .inr (4, [.ref gm, .ref gs, .ref gc, .int (u1.2.2.1)])), (gm, .inl (cI, 32, .inl (u1.2.2.2.1))), (gs, .inl (cI, 64, .inl (u1.2.2.2.2.1))), (gc, .inl (cI, 8, .inl (u1.2.2.2.2.2.1))), (qc, .inl (cI, 2, .inl cn)), (qh, .inl (cI, 8, .inl (u1.2.2.2.2.2.2)))]) (w1 := []) hP hD [] [0, 1, 2, 3, 4, 5, 6, 7, 8, 9, 10] rfl rfl (by decide) (by decide) hk1 hFc (ht ▸ hB.1) hB.2.2
    have hP := hP.sub (ws' := [(h, .inr (0, [.ref qf, .ref qd, .ref qi, .ref qs, .ref qr, .ref qc, .ref qg, .ref qh])), (qf, .inr (1, [.ref qfw, .int wl])), (qfw, .inl (cI, 70, .inl fw)), (qi, .inr (3, [.ref qiw])), (qiw, .inl (cI, 16, .inl (u1.2.1))), (qs, .inr (4, [.ref gm, .ref gs, .ref gc, .int (u1.2.2.1)])), (gm, .inl (cI, 32, .inl (u1.2.2.2.1))), (gs, .inl (cI, 64, .inl (u1.2.2.2.2.1))), (gc, .inl (cI, 8, .inl (u1.2.2.2.2.2.1))), (qc, .inl (cI, 2, .inl cn)), (qh, .inl (cI, 8, .inl (u1.2.2.2.2.2.2)))]) [0, 1, 2, 3, 4, 5, 6, 7, 8, 9, 10] rfl
    have hD := hD.sub (ws' := [(h, .inr (0, [.ref qf, .ref qd, .ref qi, .ref qs, .ref qr, .ref qc, .ref qg, .ref qh])), (qf, .inr (1, [.ref qfw, .int wl])), (qfw, .inl (cI, 70, .inl fw)), (qi, .inr (3, [.ref qiw])), (qiw, .inl (cI, 16, .inl (u1.2.1))), (qs, .inr (4, [.ref gm, .ref gs, .ref gc, .int (u1.2.2.1)])), (gm, .inl (cI, 32, .inl (u1.2.2.2.1))), (gs, .inl (cI, 64, .inl (u1.2.2.2.2.1))), (gc, .inl (cI, 8, .inl (u1.2.2.2.2.2.1))), (qc, .inl (cI, 2, .inl cn)), (qh, .inl (cI, 8, .inl (u1.2.2.2.2.2.2)))]) [0, 1, 2, 3, 4, 5, 6, 7, 8, 9, 10] (by decide) rfl
    generalize H9 = H at hP hS ⊢
    refine lv_istore (lv' := [(4, .int (f_SB_otherSlot (f_FL_heldState wl fw) sg)), (3, .int (f_SB_activeSlot (f_FL_heldState wl fw) sg)), (2, .int (f_FL_heldState wl fw)), (0, .ref h), (1, .int sg)]) hx hb d_BC_slotWithoutTrial_30 hl (by decide) rfl (fun ls hl => ?_)
    refine lv_aload_n hx hb d_BC_slotWithoutTrial_32 rfl (lv_at hl 3 rfl) ?_
    refine lv_iload hx hb d_BC_slotWithoutTrial_33 (lv_at hl 0 rfl) ?_
    refine lv_iload_n hx hb d_BC_slotWithoutTrial_35 rfl (lv_at hl 4 rfl) ?_
    have hPc := hP.sub (ws' := [(h, .inr (0, [.ref qf, .ref qd, .ref qi, .ref qs, .ref qr, .ref qc, .ref qg, .ref qh])), (qf, .inr (1, [.ref qfw, .int wl])), (qfw, .inl (cI, 70, .inl fw)), (qi, .inr (3, [.ref qiw])), (qiw, .inl (cI, 16, .inl (u1.2.1))), (qs, .inr (4, [.ref gm, .ref gs, .ref gc, .int (u1.2.2.1)])), (gm, .inl (cI, 32, .inl (u1.2.2.2.1))), (gs, .inl (cI, 64, .inl (u1.2.2.2.2.1))), (gc, .inl (cI, 8, .inl (u1.2.2.2.2.2.1))), (qc, .inl (cI, 2, .inl cn)), (qh, .inl (cI, 8, .inl (u1.2.2.2.2.2.2)))]) [0, 1, 2, 3, 4, 5, 6, 7, 8, 9, 10] rfl
    have hDc := hD.sub (ws' := [(h, .inr (0, [.ref qf, .ref qd, .ref qi, .ref qs, .ref qr, .ref qc, .ref qg, .ref qh])), (qf, .inr (1, [.ref qfw, .int wl])), (qfw, .inl (cI, 70, .inl fw)), (qi, .inr (3, [.ref qiw])), (qiw, .inl (cI, 16, .inl (u1.2.1))), (qs, .inr (4, [.ref gm, .ref gs, .ref gc, .int (u1.2.2.1)])), (gm, .inl (cI, 32, .inl (u1.2.2.2.1))), (gs, .inl (cI, 64, .inl (u1.2.2.2.2.1))), (gc, .inl (cI, 8, .inl (u1.2.2.2.2.2.1))), (qc, .inl (cI, 2, .inl cn)), (qh, .inl (cI, 8, .inl (u1.2.2.2.2.2.2)))]) [0, 1, 2, 3, 4, 5, 6, 7, 8, 9, 10] (by decide) rfl
    have hFc := va_free (wc := [(h, .inr (0, [.ref qf, .ref qd, .ref qi, .ref qs, .ref qr, .ref qc, .ref qg, .ref qh])), (qf, .inr (1, [.ref qfw, .int wl])), (qfw, .inl (cI, 70, .inl fw)), (qi, .inr (3, [.ref qiw])), (qiw, .inl (cI, 16, .inl (u1.2.1))), (qs, .inr (4, [.ref gm, .ref gs, .ref gc, .int (u1.2.2.1)])), (gm, .inl (cI, 32, .inl (u1.2.2.2.1))), (gs, .inl (cI, 64, .inl (u1.2.2.2.2.1))), (gc, .inl (cI, 8, .inl (u1.2.2.2.2.2.1))), (qc, .inl (cI, 2, .inl cn)), (qh, .inl (cI, 8, .inl (u1.2.2.2.2.2.2)))]) hD hS hA [0, 1, 2, 3, 4, 5, 6, 7, 8, 9, 10] rfl
    refine va_calli (va_runV (As := [.int (f_SB_otherSlot (f_FL_heldState wl fw) sg), .int sg]) (rest := []) ⟨hx, hb, hml, hown, hts⟩ (c_BC_isGood l dC dI cI cJ h qf qd qi qs qr qc qg qh qfw qiw gm gs gc _ (f_SB_otherSlot (f_FL_heldState wl fw) sg) sg wl fw (u1.2.1) (u1.2.2.1) (u1.2.2.2.1) (u1.2.2.2.2.1) (u1.2.2.2.2.2.1) cn (u1.2.2.2.2.2.2) (sl_other hsg) hsg) ⟨callB_of 2 hts (bc_good gw_312) rfl rfl rfl (hts _ gw_1) (hts _ gw_310) (by decide +kernel) ⟨Nat.le_of_ble_eq_true rfl, Nat.le_of_ble_eq_true rfl⟩, (hts _ gw_311), (hts _ gw_699)⟩ ⟨bc_blind, va_recv (q0 := 0) hK hP (q := (R_BC, F_BC, 8)) rfl rfl, fun U hU hW => ⟨rfl, bc_give hPc hDc hK hE hS hFc U hU hW⟩⟩ rfl rfl hl.1 rfl (lv_room (Nat.le_of_ble_eq_true rfl)) d_BC_slotWithoutTrial_36 ⟨Nat.le_of_ble_eq_true rfl, Nat.le_of_ble_eq_true rfl⟩) hS (fun q _ h => hFc q h) hFc (fun r u t H9 locs ht hvm hp hB hz1 hk1 hS => ?_)
    subst hp
    obtain ⟨hP, hD⟩ := va_join (wr := []) (w1 := [(h, .inr (0, [.ref qf, .ref qd, .ref qi, .ref qs, .ref qr, .ref qc, .ref qg, .ref qh])), (qf, .inr (1, [.ref qfw, .int wl])), (qfw, .inl (cI, 70, .inl fw)), (qi, .inr (3, [.ref qiw])), (qiw, .inl (cI, 16, .inl ((f_BC_isGood (f_SB_otherSlot (f_FL_heldState wl fw) sg) sg wl fw (u1.2.1) (u1.2.2.1) (u1.2.2.2.1) (u1.2.2.2.2.1) (u1.2.2.2.2.2.1) cn (u1.2.2.2.2.2.2)).2.1))), (qs, .inr (4, [.ref gm, .ref gs, .ref gc, .int ((f_BC_isGood (f_SB_otherSlot (f_FL_heldState wl fw) sg) sg wl fw (u1.2.1) (u1.2.2.1) (u1.2.2.2.1) (u1.2.2.2.2.1) (u1.2.2.2.2.2.1) cn (u1.2.2.2.2.2.2)).2.2.1)])), (gm, .inl (cI, 32, .inl ((f_BC_isGood (f_SB_otherSlot (f_FL_heldState wl fw) sg) sg wl fw (u1.2.1) (u1.2.2.1) (u1.2.2.2.1) (u1.2.2.2.2.1) (u1.2.2.2.2.2.1) cn (u1.2.2.2.2.2.2)).2.2.2.1))), (gs, .inl (cI, 64, .inl ((f_BC_isGood (f_SB_otherSlot (f_FL_heldState wl fw) sg) sg wl fw (u1.2.1) (u1.2.2.1) (u1.2.2.2.1) (u1.2.2.2.2.1) (u1.2.2.2.2.2.1) cn (u1.2.2.2.2.2.2)).2.2.2.2.1))), (gc, .inl (cI, 8, .inl ((f_BC_isGood (f_SB_otherSlot (f_FL_heldState wl fw) sg) sg wl fw (u1.2.1) (u1.2.2.1) (u1.2.2.2.1) (u1.2.2.2.2.1) (u1.2.2.2.2.2.1) cn (u1.2.2.2.2.2.2)).2.2.2.2.2.1))), (qc, .inl (cI, 2, .inl cn)), (qh, .inl (cI, 8, .inl ((f_BC_isGood (f_SB_otherSlot (f_FL_heldState wl fw) sg) sg wl fw (u1.2.1) (u1.2.2.1) (u1.2.2.2.1) (u1.2.2.2.2.1) (u1.2.2.2.2.2.1) cn (u1.2.2.2.2.2.2)).2.2.2.2.2.2)))]) hP hD [0, 1, 2, 3, 4, 5, 6, 7, 8, 9, 10] [] rfl rfl (by decide) (by decide) hk1 hFc (ht ▸ hB.1) hB.2.2
    have hP := hP.sub (ws' := [(h, .inr (0, [.ref qf, .ref qd, .ref qi, .ref qs, .ref qr, .ref qc, .ref qg, .ref qh])), (qf, .inr (1, [.ref qfw, .int wl])), (qfw, .inl (cI, 70, .inl fw)), (qi, .inr (3, [.ref qiw])), (qiw, .inl (cI, 16, .inl ((f_BC_isGood (f_SB_otherSlot (f_FL_heldState wl fw) sg) sg wl fw (u1.2.1) (u1.2.2.1) (u1.2.2.2.1) (u1.2.2.2.2.1) (u1.2.2.2.2.2.1) cn (u1.2.2.2.2.2.2)).2.1))), (qs, .inr (4, [.ref gm, .ref gs, .ref gc, .int ((f_BC_isGood (f_SB_otherSlot (f_FL_heldState wl fw) sg) sg wl fw (u1.2.1) (u1.2.2.1) (u1.2.2.2.1) (u1.2.2.2.2.1) (u1.2.2.2.2.2.1) cn (u1.2.2.2.2.2.2)).2.2.1)])), (gm, .inl (cI, 32, .inl ((f_BC_isGood (f_SB_otherSlot (f_FL_heldState wl fw) sg) sg wl fw (u1.2.1) (u1.2.2.1) (u1.2.2.2.1) (u1.2.2.2.2.1) (u1.2.2.2.2.2.1) cn (u1.2.2.2.2.2.2)).2.2.2.1))), (gs, .inl (cI, 64, .inl ((f_BC_isGood (f_SB_otherSlot (f_FL_heldState wl fw) sg) sg wl fw (u1.2.1) (u1.2.2.1) (u1.2.2.2.1) (u1.2.2.2.2.1) (u1.2.2.2.2.2.1) cn (u1.2.2.2.2.2.2)).2.2.2.2.1))), (gc, .inl (cI, 8, .inl ((f_BC_isGood (f_SB_otherSlot (f_FL_heldState wl fw) sg) sg wl fw (u1.2.1) (u1.2.2.1) (u1.2.2.2.1) (u1.2.2.2.2.1) (u1.2.2.2.2.2.1) cn (u1.2.2.2.2.2.2)).2.2.2.2.2.1))), (qc, .inl (cI, 2, .inl cn)), (qh, .inl (cI, 8, .inl ((f_BC_isGood (f_SB_otherSlot (f_FL_heldState wl fw) sg) sg wl fw (u1.2.1) (u1.2.2.1) (u1.2.2.2.1) (u1.2.2.2.2.1) (u1.2.2.2.2.2.1) cn (u1.2.2.2.2.2.2)).2.2.2.2.2.2)))]) [0, 1, 2, 3, 4, 5, 6, 7, 8, 9, 10] rfl
    have hD := hD.sub (ws' := [(h, .inr (0, [.ref qf, .ref qd, .ref qi, .ref qs, .ref qr, .ref qc, .ref qg, .ref qh])), (qf, .inr (1, [.ref qfw, .int wl])), (qfw, .inl (cI, 70, .inl fw)), (qi, .inr (3, [.ref qiw])), (qiw, .inl (cI, 16, .inl ((f_BC_isGood (f_SB_otherSlot (f_FL_heldState wl fw) sg) sg wl fw (u1.2.1) (u1.2.2.1) (u1.2.2.2.1) (u1.2.2.2.2.1) (u1.2.2.2.2.2.1) cn (u1.2.2.2.2.2.2)).2.1))), (qs, .inr (4, [.ref gm, .ref gs, .ref gc, .int ((f_BC_isGood (f_SB_otherSlot (f_FL_heldState wl fw) sg) sg wl fw (u1.2.1) (u1.2.2.1) (u1.2.2.2.1) (u1.2.2.2.2.1) (u1.2.2.2.2.2.1) cn (u1.2.2.2.2.2.2)).2.2.1)])), (gm, .inl (cI, 32, .inl ((f_BC_isGood (f_SB_otherSlot (f_FL_heldState wl fw) sg) sg wl fw (u1.2.1) (u1.2.2.1) (u1.2.2.2.1) (u1.2.2.2.2.1) (u1.2.2.2.2.2.1) cn (u1.2.2.2.2.2.2)).2.2.2.1))), (gs, .inl (cI, 64, .inl ((f_BC_isGood (f_SB_otherSlot (f_FL_heldState wl fw) sg) sg wl fw (u1.2.1) (u1.2.2.1) (u1.2.2.2.1) (u1.2.2.2.2.1) (u1.2.2.2.2.2.1) cn (u1.2.2.2.2.2.2)).2.2.2.2.1))), (gc, .inl (cI, 8, .inl ((f_BC_isGood (f_SB_otherSlot (f_FL_heldState wl fw) sg) sg wl fw (u1.2.1) (u1.2.2.1) (u1.2.2.2.1) (u1.2.2.2.2.1) (u1.2.2.2.2.2.1) cn (u1.2.2.2.2.2.2)).2.2.2.2.2.1))), (qc, .inl (cI, 2, .inl cn)), (qh, .inl (cI, 8, .inl ((f_BC_isGood (f_SB_otherSlot (f_FL_heldState wl fw) sg) sg wl fw (u1.2.1) (u1.2.2.1) (u1.2.2.2.1) (u1.2.2.2.2.1) (u1.2.2.2.2.2.1) cn (u1.2.2.2.2.2.2)).2.2.2.2.2.2)))]) [0, 1, 2, 3, 4, 5, 6, 7, 8, 9, 10] (by decide) rfl
    generalize H9 = H at hP hS ⊢
    have e0 : (f_BC_slotWithoutTrial_c1 sg wl fw iw sl ms sc ch cn hh u1) = f_BC_slotWithoutTrial_c2 sg wl fw iw sl ms sc ch cn hh u1 (f_BC_isGood (f_SB_otherSlot (f_FL_heldState wl fw) sg) sg wl fw (u1.2.1) (u1.2.2.1) (u1.2.2.2.1) (u1.2.2.2.2.1) (u1.2.2.2.2.2.1) cn (u1.2.2.2.2.2.2)) := by rw [f_BC_slotWithoutTrial_c1, if_pos h3]
    rw [e0]
    generalize hu2 : (f_BC_isGood (f_SB_otherSlot (f_FL_heldState wl fw) sg) sg wl fw (u1.2.1) (u1.2.2.1) (u1.2.2.2.1) (u1.2.2.2.2.1) (u1.2.2.2.2.2.1) cn (u1.2.2.2.2.2.2)) = u2 at hP hD ⊢
    have hP : va_P (dC, dI) classes [(h, .inr (0, [.ref qf, .ref qd, .ref qi, .ref qs, .ref qr, .ref qc, .ref qg, .ref qh])), (qf, .inr (1, [.ref qfw, .int wl])), (qfw, .inl (cI, 70, .inl fw)), (qi, .inr (3, [.ref qiw])), (qiw, .inl (cI, 16, .inl (u2.2.1))), (qs, .inr (4, [.ref gm, .ref gs, .ref gc, .int (u2.2.2.1)])), (gm, .inl (cI, 32, .inl (u2.2.2.2.1))), (gs, .inl (cI, 64, .inl (u2.2.2.2.2.1))), (gc, .inl (cI, 8, .inl (u2.2.2.2.2.2.1))), (qc, .inl (cI, 2, .inl cn)), (qh, .inl (cI, 8, .inl (u2.2.2.2.2.2.2)))] H := hP
    have hD : va_D A [(h, .inr (0, [.ref qf, .ref qd, .ref qi, .ref qs, .ref qr, .ref qc, .ref qg, .ref qh])), (qf, .inr (1, [.ref qfw, .int wl])), (qfw, .inl (cI, 70, .inl fw)), (qi, .inr (3, [.ref qiw])), (qiw, .inl (cI, 16, .inl (u2.2.1))), (qs, .inr (4, [.ref gm, .ref gs, .ref gc, .int (u2.2.2.1)])), (gm, .inl (cI, 32, .inl (u2.2.2.2.1))), (gs, .inl (cI, 64, .inl (u2.2.2.2.2.1))), (gc, .inl (cI, 8, .inl (u2.2.2.2.2.2.1))), (qc, .inl (cI, 2, .inl cn)), (qh, .inl (cI, 8, .inl (u2.2.2.2.2.2.2)))] := hD
    refine lv_if_eq (tgt := 47) hx hb d_BC_slotWithoutTrial_39 (by decide) (fun h4 => ?_) (fun h4 => ?_)
    · refine lv_iconst (v := (-1)) hx hb d_BC_slotWithoutTrial_47 (by decide) ?_
      have e0 : (f_BC_slotWithoutTrial_c2 sg wl fw iw sl ms sc ch cn hh u1 u2) = ((-1 : Int32), (u2.2.1), (u2.2.2.1), (u2.2.2.2.1), (u2.2.2.2.2.1), (u2.2.2.2.2.2.1), (u2.2.2.2.2.2.2)) := by rw [f_BC_slotWithoutTrial_c2, if_pos h4]
      rw [e0]
      exact W.iret (v := (-1 : Int32)) hx hb hr (fun t ht hW => ⟨⟨(-1 : Int32), (), rfl, rfl, by rw [ht]; exact hP, va_K.moved hW.alike hK, hD⟩, hS.F ht⟩) hS.2.2 d_BC_slotWithoutTrial_48
    · refine lv_iload hx hb d_BC_slotWithoutTrial_42 (lv_at hl 0 rfl) ?_
      refine lv_goto (tgt := 48) hx hb d_BC_slotWithoutTrial_44 (by decide) ?_
      have e0 : (f_BC_slotWithoutTrial_c2 sg wl fw iw sl ms sc ch cn hh u1 u2) = ((f_SB_otherSlot (f_FL_heldState wl fw) sg), (u2.2.1), (u2.2.2.1), (u2.2.2.2.1), (u2.2.2.2.2.1), (u2.2.2.2.2.2.1), (u2.2.2.2.2.2.2)) := by rw [f_BC_slotWithoutTrial_c2, if_neg h4]
      rw [e0]
      exact W.iret (v := (f_SB_otherSlot (f_FL_heldState wl fw) sg)) hx hb hr (fun t ht hW => ⟨⟨(f_SB_otherSlot (f_FL_heldState wl fw) sg), (), rfl, rfl, by rw [ht]; exact hP, va_K.moved hW.alike hK, hD⟩, hS.F ht⟩) hS.2.2 d_BC_slotWithoutTrial_48
  · refine lv_iload_n hx hb d_BC_slotWithoutTrial_23 rfl (lv_at hl 0 rfl) ?_
    have e0 : (f_BC_slotWithoutTrial_c1 sg wl fw iw sl ms sc ch cn hh u1) = ((f_SB_activeSlot (f_FL_heldState wl fw) sg), (u1.2.1), (u1.2.2.1), (u1.2.2.2.1), (u1.2.2.2.2.1), (u1.2.2.2.2.2.1), (u1.2.2.2.2.2.2)) := by rw [f_BC_slotWithoutTrial_c1, if_neg h3]
    rw [e0]
    exact W.iret (v := (f_SB_activeSlot (f_FL_heldState wl fw) sg)) hx hb hr (fun t ht hW => ⟨⟨(f_SB_activeSlot (f_FL_heldState wl fw) sg), (), rfl, rfl, by rw [ht]; exact hP, va_K.moved hW.alike hK, hD⟩, hS.F ht⟩) hS.2.2 d_BC_slotWithoutTrial_24
-- BC_start
theorem d_BC_start_0 : decode prog_1_method_23_code 0 = .ok (.aload_n 0, 1) := by decide +kernel
theorem d_BC_start_1 : decode prog_1_method_23_code 1 = .ok (.getfield 37, 3) := by decide +kernel
theorem d_BC_start_4 : decode prog_1_method_23_code 4 = .ok (.iload_n 1, 1) := by decide +kernel
theorem d_BC_start_5 : decode prog_1_method_23_code 5 = .ok (.iload_n 2, 1) := by decide +kernel
theorem d_BC_start_6 : decode prog_1_method_23_code 6 = .ok (.iastore, 1) := by decide +kernel
theorem d_BC_start_7 : decode prog_1_method_23_code 7 = .ok (.aload_n 0, 1) := by decide +kernel
theorem d_BC_start_8 : decode prog_1_method_23_code 8 = .ok (.getfield 26, 3) := by decide +kernel
theorem d_BC_start_11 : decode prog_1_method_23_code 11 = .ok (.aload_n 0, 1) := by decide +kernel
theorem d_BC_start_12 : decode prog_1_method_23_code 12 = .ok (.getfield 10, 3) := by decide +kernel
theorem d_BC_start_15 : decode prog_1_method_23_code 15 = .ok (.iload_n 2, 1) := by decide +kernel
theorem d_BC_start_16 : decode prog_1_method_23_code 16 = .ok (.invokevirtual 210, 3) := by decide +kernel
theorem d_BC_start_19 : decode prog_1_method_23_code 19 = .ok (.aload_n 0, 1) := by decide +kernel
theorem d_BC_start_20 : decode prog_1_method_23_code 20 = .ok (.getfield 26, 3) := by decide +kernel
theorem d_BC_start_23 : decode prog_1_method_23_code 23 = .ok (.aload_n 0, 1) := by decide +kernel
theorem d_BC_start_24 : decode prog_1_method_23_code 24 = .ok (.getfield 47, 3) := by decide +kernel
theorem d_BC_start_27 : decode prog_1_method_23_code 27 = .ok (.aload_n 0, 1) := by decide +kernel
theorem d_BC_start_28 : decode prog_1_method_23_code 28 = .ok (.getfield 33, 3) := by decide +kernel
theorem d_BC_start_31 : decode prog_1_method_23_code 31 = .ok (.invokevirtual 224, 3) := by decide +kernel
theorem d_BC_start_34 : decode prog_1_method_23_code 34 = .ok (.aload_n 0, 1) := by decide +kernel
theorem d_BC_start_35 : decode prog_1_method_23_code 35 = .ok (.getfield 33, 3) := by decide +kernel
theorem d_BC_start_38 : decode prog_1_method_23_code 38 = .ok (.invokevirtual 161, 3) := by decide +kernel
theorem d_BC_start_41 : decode prog_1_method_23_code 41 = .ok (.aload_n 0, 1) := by decide +kernel
theorem d_BC_start_42 : decode prog_1_method_23_code 42 = .ok (.getfield 33, 3) := by decide +kernel
theorem d_BC_start_45 : decode prog_1_method_23_code 45 = .ok (.aload_n 0, 1) := by decide +kernel
theorem d_BC_start_46 : decode prog_1_method_23_code 46 = .ok (.getfield 44, 3) := by decide +kernel
theorem d_BC_start_49 : decode prog_1_method_23_code 49 = .ok (.bipush 8, 2) := by decide +kernel
theorem d_BC_start_51 : decode prog_1_method_23_code 51 = .ok (.iload_n 1, 1) := by decide +kernel
theorem d_BC_start_52 : decode prog_1_method_23_code 52 = .ok (.imul, 1) := by decide +kernel
theorem d_BC_start_53 : decode prog_1_method_23_code 53 = .ok (.bipush 8, 2) := by decide +kernel
theorem d_BC_start_55 : decode prog_1_method_23_code 55 = .ok (.invokevirtual 167, 3) := by decide +kernel
theorem d_BC_start_58 : decode prog_1_method_23_code 58 = .ok (.aload_n 0, 1) := by decide +kernel
theorem d_BC_start_59 : decode prog_1_method_23_code 59 = .ok (.getfield 33, 3) := by decide +kernel
theorem d_BC_start_62 : decode prog_1_method_23_code 62 = .ok (.aload_n 0, 1) := by decide +kernel
theorem d_BC_start_63 : decode prog_1_method_23_code 63 = .ok (.getfield 47, 3) := by decide +kernel
theorem d_BC_start_66 : decode prog_1_method_23_code 66 = .ok (.iconst 0, 1) := by decide +kernel
theorem d_BC_start_67 : decode prog_1_method_23_code 67 = .ok (.bipush 8, 2) := by decide +kernel
theorem d_BC_start_69 : decode prog_1_method_23_code 69 = .ok (.invokevirtual 167, 3) := by decide +kernel
theorem d_BC_start_72 : decode prog_1_method_23_code 72 = .ok (.aload_n 0, 1) := by decide +kernel
theorem d_BC_start_73 : decode prog_1_method_23_code 73 = .ok (.getfield 33, 3) := by decide +kernel
theorem d_BC_start_76 : decode prog_1_method_23_code 76 = .ok (.aload_n 0, 1) := by decide +kernel
theorem d_BC_start_77 : decode prog_1_method_23_code 77 = .ok (.getfield 44, 3) := by decide +kernel
theorem d_BC_start_80 : decode prog_1_method_23_code 80 = .ok (.bipush 8, 2) := by decide +kernel
theorem d_BC_start_82 : decode prog_1_method_23_code 82 = .ok (.iload_n 1, 1) := by decide +kernel
theorem d_BC_start_83 : decode prog_1_method_23_code 83 = .ok (.imul, 1) := by decide +kernel
theorem d_BC_start_84 : decode prog_1_method_23_code 84 = .ok (.invokevirtual 174, 3) := by decide +kernel
theorem d_BC_start_87 : decode prog_1_method_23_code 87 = .ok (.return_, 1) := by decide +kernel
def y_BC_start : MethodName := ⟨"BootChain", "start", "(II)V"⟩
def ws_BC_start : List Cond := .code y_BC_start prog_1_method_23_code 3 none :: bc_G
def f_BC_start_c4 (sg : Int32) (so : Int32) (wl : Int32) (fw : Nat → Int32) (iw : Nat → Int32) (sl : Int32) (ms : Nat → Int32) (sc : Nat → Int32) (ch : Nat → Int32) (ru : Nat → Int32) (rg : Nat → Int32) (hh : Nat → Int32) (u1 : (Nat → Int32) × Int32 × (Nat → Int32) × (Nat → Int32) × (Nat → Int32)) (u2 : Int32 × (Nat → Int32)) (u3 : Int32 × (Nat → Int32)) (u4 : (Nat → Int32) × (Nat → Int32) × (Nat → Int32) × (Nat → Int32)) : (Nat → Int32) × Int32 × (Nat → Int32) × (Nat → Int32) × (Nat → Int32) × (Nat → Int32) × (Nat → Int32) × (Nat → Int32) := ((f_IM_load so iw wl fw), (u3.1), (u4.1), (u4.2.1), (u4.2.2.1), (upd ru (sg).toNatClampNeg so), (u4.2.2.2), (u1.1))
def f_BC_start_c3 (sg : Int32) (so : Int32) (wl : Int32) (fw : Nat → Int32) (iw : Nat → Int32) (sl : Int32) (ms : Nat → Int32) (sc : Nat → Int32) (ch : Nat → Int32) (ru : Nat → Int32) (rg : Nat → Int32) (hh : Nat → Int32) (u1 : (Nat → Int32) × Int32 × (Nat → Int32) × (Nat → Int32) × (Nat → Int32)) (u2 : Int32 × (Nat → Int32)) (u3 : Int32 × (Nat → Int32)) : (Nat → Int32) × Int32 × (Nat → Int32) × (Nat → Int32) × (Nat → Int32) × (Nat → Int32) × (Nat → Int32) × (Nat → Int32) := f_BC_start_c4 sg so wl fw iw sl ms sc ch ru rg hh u1 u2 u3 (f_SH_finish 16 ((8 : Int32) * sg) (u3.1) (u3.2) (u1.2.2.2.1) (u1.2.2.2.2) rg)
def f_BC_start_c2 (sg : Int32) (so : Int32) (wl : Int32) (fw : Nat → Int32) (iw : Nat → Int32) (sl : Int32) (ms : Nat → Int32) (sc : Nat → Int32) (ch : Nat → Int32) (ru : Nat → Int32) (rg : Nat → Int32) (hh : Nat → Int32) (u1 : (Nat → Int32) × Int32 × (Nat → Int32) × (Nat → Int32) × (Nat → Int32)) (u2 : Int32 × (Nat → Int32)) : (Nat → Int32) × Int32 × (Nat → Int32) × (Nat → Int32) × (Nat → Int32) × (Nat → Int32) × (Nat → Int32) × (Nat → Int32) := f_BC_start_c3 sg so wl fw iw sl ms sc ch ru rg hh u1 u2 (f_SH_addRow 8 (0 : Int32) (8 : Int32) (u2.1) (u2.2) (u1.2.2.2.1) (u1.2.2.2.2) (u1.1))
def f_BC_start_c1 (sg : Int32) (so : Int32) (wl : Int32) (fw : Nat → Int32) (iw : Nat → Int32) (sl : Int32) (ms : Nat → Int32) (sc : Nat → Int32) (ch : Nat → Int32) (ru : Nat → Int32) (rg : Nat → Int32) (hh : Nat → Int32) (u1 : (Nat → Int32) × Int32 × (Nat → Int32) × (Nat → Int32) × (Nat → Int32)) : (Nat → Int32) × Int32 × (Nat → Int32) × (Nat → Int32) × (Nat → Int32) × (Nat → Int32) × (Nat → Int32) × (Nat → Int32) := f_BC_start_c2 sg so wl fw iw sl ms sc ch ru rg hh u1 (f_SH_addRow 16 ((8 : Int32) * sg) (8 : Int32) ((f_SH_begin (u1.2.1) (u1.2.2.1) (u1.2.2.2.1) (u1.2.2.2.2))) (u1.2.2.1) (u1.2.2.2.1) (u1.2.2.2.2) rg)
def f_BC_start (sg : Int32) (so : Int32) (wl : Int32) (fw : Nat → Int32) (iw : Nat → Int32) (sl : Int32) (ms : Nat → Int32) (sc : Nat → Int32) (ch : Nat → Int32) (ru : Nat → Int32) (rg : Nat → Int32) (hh : Nat → Int32) : (Nat → Int32) × Int32 × (Nat → Int32) × (Nat → Int32) × (Nat → Int32) × (Nat → Int32) × (Nat → Int32) × (Nat → Int32) := f_BC_start_c1 sg so wl fw iw sl ms sc ch ru rg hh (f_IM_digestInto (f_IM_load so iw wl fw) hh sl ms sc ch)
set_option maxHeartbeats 4000000 in
set_option maxRecDepth 100000 in
theorem c_BC_start (l : Launch) (dC : Nat → ClassId) (dI : Nat → Nat → Nat) (cI cJ : ClassId) (h qf qd qi qs qr qc qg qh qfw qiw gm gs gc : Nat) (sz : Nat) (sg : Int32) (so : Int32) (wl : Int32) (fw : Nat → Int32) (iw : Nat → Int32) (sl : Int32) (ms : Nat → Int32) (sc : Nat → Int32) (ch : Nat → Int32) (ru : Nat → Int32) (rg : Nat → Int32) (hh : Nat → Int32) (hsg : sg = 0 ∨ sg = 1) (hso : 0 ≤ so ∧ so < 4) : Met l y_BC_start ws_BC_start ({ frames := 4, cells := 0, slots := 0, locals := 101 } : Room) (va_Pc [.ref h, .int sg, .int so] (bc_pre (dC, dI) cI cJ [(h, .inr (0, [.ref qf, .ref qd, .ref qi, .ref qs, .ref qr, .ref qc, .ref qg, .ref qh])), (qf, .inr (1, [.ref qfw, .int wl])), (qfw, .inl (cI, 70, .inl fw)), (qi, .inr (3, [.ref qiw])), (qiw, .inl (cI, 16, .inl iw)), (qs, .inr (4, [.ref gm, .ref gs, .ref gc, .int sl])), (gm, .inl (cI, 32, .inl ms)), (gs, .inl (cI, 64, .inl sc)), (gc, .inl (cI, 8, .inl ch)), (qr, .inl (cI, 2, .inl ru)), (qg, .inl (cI, 16, .inl rg)), (qh, .inl (cI, 8, .inl hh))] sz)) (va_Qv (fun (_ : Unit) => True) (fun _ => bc_post (dC, dI) cI cJ (va_A [(h, .inr (0, [.ref qf, .ref qd, .ref qi, .ref qs, .ref qr, .ref qc, .ref qg, .ref qh])), (qf, .inr (1, [.ref qfw, .int wl])), (qfw, .inl (cI, 70, .inl fw)), (qi, .inr (3, [.ref qiw])), (qiw, .inl (cI, 16, .inl iw)), (qs, .inr (4, [.ref gm, .ref gs, .ref gc, .int sl])), (gm, .inl (cI, 32, .inl ms)), (gs, .inl (cI, 64, .inl sc)), (gc, .inl (cI, 8, .inl ch)), (qr, .inl (cI, 2, .inl ru)), (qg, .inl (cI, 16, .inl rg)), (qh, .inl (cI, 8, .inl hh))] sz) [(h, .inr (0, [.ref qf, .ref qd, .ref qi, .ref qs, .ref qr, .ref qc, .ref qg, .ref qh])), (qf, .inr (1, [.ref qfw, .int wl])), (qfw, .inl (cI, 70, .inl fw)), (qi, .inr (3, [.ref qiw])), (qiw, .inl (cI, 16, .inl (f_BC_start sg so wl fw iw sl ms sc ch ru rg hh).1)), (qs, .inr (4, [.ref gm, .ref gs, .ref gc, .int (f_BC_start sg so wl fw iw sl ms sc ch ru rg hh).2.1])), (gm, .inl (cI, 32, .inl (f_BC_start sg so wl fw iw sl ms sc ch ru rg hh).2.2.1)), (gs, .inl (cI, 64, .inl (f_BC_start sg so wl fw iw sl ms sc ch ru rg hh).2.2.2.1)), (gc, .inl (cI, 8, .inl (f_BC_start sg so wl fw iw sl ms sc ch ru rg hh).2.2.2.2.1)), (qr, .inl (cI, 2, .inl (f_BC_start sg so wl fw iw sl ms sc ch ru rg hh).2.2.2.2.2.1)), (qg, .inl (cI, 16, .inl (f_BC_start sg so wl fw iw sl ms sc ch ru rg hh).2.2.2.2.2.2.1)), (qh, .inl (cI, 8, .inl (f_BC_start sg so wl fw iw sl ms sc ch ru rg hh).2.2.2.2.2.2.2))]) (va_A [(h, .inr (0, [.ref qf, .ref qd, .ref qi, .ref qs, .ref qr, .ref qc, .ref qg, .ref qh])), (qf, .inr (1, [.ref qfw, .int wl])), (qfw, .inl (cI, 70, .inl fw)), (qi, .inr (3, [.ref qiw])), (qiw, .inl (cI, 16, .inl iw)), (qs, .inr (4, [.ref gm, .ref gs, .ref gc, .int sl])), (gm, .inl (cI, 32, .inl ms)), (gs, .inl (cI, 64, .inl sc)), (gc, .inl (cI, 8, .inl ch)), (qr, .inl (cI, 2, .inl ru)), (qg, .inl (cI, 16, .inl rg)), (qh, .inl (cI, 8, .inl hh))] sz)) 0 0 (va_A [(h, .inr (0, [.ref qf, .ref qd, .ref qi, .ref qs, .ref qr, .ref qc, .ref qg, .ref qh])), (qf, .inr (1, [.ref qfw, .int wl])), (qfw, .inl (cI, 70, .inl fw)), (qi, .inr (3, [.ref qiw])), (qiw, .inl (cI, 16, .inl iw)), (qs, .inr (4, [.ref gm, .ref gs, .ref gc, .int sl])), (gm, .inl (cI, 32, .inl ms)), (gs, .inl (cI, 64, .inl sc)), (gc, .inl (cI, 8, .inl ch)), (qr, .inl (cI, 2, .inl ru)), (qg, .inl (cI, 16, .inl rg)), (qh, .inl (cI, 8, .inl hh))] sz) := by
  refine Met.ofW (cc := prog_1_method_23_code) (maxL := 3) (ret := none) (by decide) rfl ?_
  intro p e s m args below meth c s₁ B hml hv
  obtain ⟨rfl, hsz, hP, hK, hD0, hE⟩ := hv
  have hx := B.exec
  have hb := B.bytes
  have hr := B.returns
  have hts : ∀ w ∈ bc_G, w.before ([.ref h, .int sg, .int so] : List Value).toArray s = true := fun w h => atoms_spec (ws := ws_BC_start) B.pre w (List.mem_cons_of_mem _ h)
  have hown : s.vm.findClass "BootChain" = some m.cls := findClass_of_methodNamed B.named
  have hlocks := B.notSynchronized
  subst hsz
  have hD := hD0.self (sz := s.heap.size)
  generalize hAe : va_A [(h, .inr (0, [.ref qf, .ref qd, .ref qi, .ref qs, .ref qr, .ref qc, .ref qg, .ref qh])), (qf, .inr (1, [.ref qfw, .int wl])), (qfw, .inl (cI, 70, .inl fw)), (qi, .inr (3, [.ref qiw])), (qiw, .inl (cI, 16, .inl iw)), (qs, .inr (4, [.ref gm, .ref gs, .ref gc, .int sl])), (gm, .inl (cI, 32, .inl ms)), (gs, .inl (cI, 64, .inl sc)), (gc, .inl (cI, 8, .inl ch)), (qr, .inl (cI, 2, .inl ru)), (qg, .inl (cI, 16, .inl rg)), (qh, .inl (cI, 8, .inl hh))] s.heap.size = A at hD hE ⊢
  have hA : ∀ q : Nat, s.heap.size ≤ q → A q := fun q h => by rw [← hAe]; exact Or.inr h
  have hS : va_S A s.heap s.heap [] := va_S.rf
  have hl := lv_entry ([.ref h, .int sg, .int so]) (n := 3) (Nat.le_of_ble_eq_true rfl)
  rw [lg_entry_eq]
  generalize (lg_sl ([.ref h, .int sg, .int so]) ++ List.replicate (3 - (lg_sl ([.ref h, .int sg, .int so])).length) Slot.unset).toArray = ls at hl ⊢
  have hl : lv_has ls 3 [(0, .ref h), (1, .int sg), (2, .int so)] := hl
  refine lv_aload_n hx hb d_BC_start_0 rfl (lv_at hl 0 rfl) ?_
  refine va_get (D := (dC, dI)) (ci := 0) (v := .ref qr) (C := R_BC) (T := F_BC) (N := 8) hx hb hts in_BC hown hK hP 0 rfl rfl 4 (by decide) (hts _ gw_69) (fun _ h9 => h9) rfl d_BC_start_1 ?_
  refine lv_iload_n hx hb d_BC_start_4 rfl (lv_at hl 1 rfl) ?_
  refine lv_iload_n hx hb d_BC_start_5 rfl (lv_at hl 2 rfl) ?_
  refine va_iast hx hb hK hP hD hS 9 0 rfl rfl (ix_st hsg) d_BC_start_6 (fun H locs hP hD hS => ?_)
  have hP : va_P (dC, dI) classes [(h, .inr (0, [.ref qf, .ref qd, .ref qi, .ref qs, .ref qr, .ref qc, .ref qg, .ref qh])), (qf, .inr (1, [.ref qfw, .int wl])), (qfw, .inl (cI, 70, .inl fw)), (qi, .inr (3, [.ref qiw])), (qiw, .inl (cI, 16, .inl iw)), (qs, .inr (4, [.ref gm, .ref gs, .ref gc, .int sl])), (gm, .inl (cI, 32, .inl ms)), (gs, .inl (cI, 64, .inl sc)), (gc, .inl (cI, 8, .inl ch)), (qr, .inl (cI, 2, .inl (upd ru (sg).toNatClampNeg so))), (qg, .inl (cI, 16, .inl rg)), (qh, .inl (cI, 8, .inl hh))] H := hP
  have hD : va_D A [(h, .inr (0, [.ref qf, .ref qd, .ref qi, .ref qs, .ref qr, .ref qc, .ref qg, .ref qh])), (qf, .inr (1, [.ref qfw, .int wl])), (qfw, .inl (cI, 70, .inl fw)), (qi, .inr (3, [.ref qiw])), (qiw, .inl (cI, 16, .inl iw)), (qs, .inr (4, [.ref gm, .ref gs, .ref gc, .int sl])), (gm, .inl (cI, 32, .inl ms)), (gs, .inl (cI, 64, .inl sc)), (gc, .inl (cI, 8, .inl ch)), (qr, .inl (cI, 2, .inl (upd ru (sg).toNatClampNeg so))), (qg, .inl (cI, 16, .inl rg)), (qh, .inl (cI, 8, .inl hh))] := hD
  refine lv_aload_n hx hb d_BC_start_7 rfl (lv_at hl 0 rfl) ?_
  refine va_get (D := (dC, dI)) (ci := 0) (v := .ref qi) (C := R_BC) (T := F_BC) (N := 8) hx hb hts in_BC hown hK hP 0 rfl rfl 2 (by decide) (hts _ gw_67) (fun _ h9 => h9) rfl d_BC_start_8 ?_
  refine lv_aload_n hx hb d_BC_start_11 rfl (lv_at hl 0 rfl) ?_
  refine va_get (D := (dC, dI)) (ci := 0) (v := .ref qf) (C := R_BC) (T := F_BC) (N := 8) hx hb hts in_BC hown hK hP 0 rfl rfl 0 (by decide) (hts _ gw_65) (fun _ h9 => h9) rfl d_BC_start_12 ?_
  refine lv_iload_n hx hb d_BC_start_15 rfl (lv_at hl 2 rfl) ?_
  have hPc := hP.sub (ws' := [(qi, .inr (3, [.ref qiw])), (qiw, .inl (cI, 16, .inl iw)), (qf, .inr (1, [.ref qfw, .int wl])), (qfw, .inl (cI, 70, .inl fw))]) [3, 4, 1, 2] rfl
  have hDc := hD.sub (ws' := [(qi, .inr (3, [.ref qiw])), (qiw, .inl (cI, 16, .inl iw)), (qf, .inr (1, [.ref qfw, .int wl])), (qfw, .inl (cI, 70, .inl fw))]) [3, 4, 1, 2] (by decide) rfl
  have hFc := va_free (wc := [(qi, .inr (3, [.ref qiw])), (qiw, .inl (cI, 16, .inl iw)), (qf, .inr (1, [.ref qfw, .int wl])), (qfw, .inl (cI, 70, .inl fw))]) hD hS hA [3, 4, 1, 2] rfl
  refine va_callv (va_runV (As := [.ref qf, .int so]) (rest := []) ⟨hx, hb, hml, hown, hts⟩ (c_IM_load l dC dI cI cJ qi qf qiw qfw _ so iw wl fw hso) ⟨callB_of 2 hts (bc_good gw_316) rfl rfl rfl (hts _ gw_4) (hts _ gw_313) (by decide +kernel) ⟨Nat.le_of_ble_eq_true rfl, Nat.le_of_ble_eq_true rfl⟩, (hts _ gw_314), (hts _ gw_315)⟩ ⟨bc_blind, va_recv (q0 := 3) hK hP (q := (R_IM, F_IM, 1)) rfl rfl, fun U hU hW => ⟨rfl, bc_give hPc hDc hK hE hS hFc U hU hW⟩⟩ rfl rfl hl.1 rfl (lv_room (Nat.le_of_ble_eq_true rfl)) d_BC_start_16 ⟨Nat.le_of_ble_eq_true rfl, Nat.le_of_ble_eq_true rfl⟩) hS (fun q _ h => hFc q h) hFc (fun u t H9 locs ht hvm hp hB hz1 hk1 hS => ?_)
  obtain ⟨hP, hD⟩ := va_join (wr := [(h, .inr (0, [.ref qf, .ref qd, .ref qi, .ref qs, .ref qr, .ref qc, .ref qg, .ref qh])), (qs, .inr (4, [.ref gm, .ref gs, .ref gc, .int sl])), (gm, .inl (cI, 32, .inl ms)), (gs, .inl (cI, 64, .inl sc)), (gc, .inl (cI, 8, .inl ch)), (qr, .inl (cI, 2, .inl (upd ru (sg).toNatClampNeg so))), (qg, .inl (cI, 16, .inl rg)), (qh, .inl (cI, 8, .inl hh))]) (w1 := [(qi, .inr (3, [.ref qiw])), (qiw, .inl (cI, 16, .inl (f_IM_load so iw wl fw))), (qf, .inr (1, [.ref qfw, .int wl])), (qfw, .inl (cI, 70, .inl fw))]) hP hD [3, 4, 1, 2] [0, 5, 6, 7, 8, 9, 10, 11] rfl rfl (by decide) (by decide) hk1 hFc (ht ▸ hB.1) hB.2.2
  have hP := hP.sub (ws' := [(h, .inr (0, [.ref qf, .ref qd, .ref qi, .ref qs, .ref qr, .ref qc, .ref qg, .ref qh])), (qf, .inr (1, [.ref qfw, .int wl])), (qfw, .inl (cI, 70, .inl fw)), (qi, .inr (3, [.ref qiw])), (qiw, .inl (cI, 16, .inl (f_IM_load so iw wl fw))), (qs, .inr (4, [.ref gm, .ref gs, .ref gc, .int sl])), (gm, .inl (cI, 32, .inl ms)), (gs, .inl (cI, 64, .inl sc)), (gc, .inl (cI, 8, .inl ch)), (qr, .inl (cI, 2, .inl (upd ru (sg).toNatClampNeg so))), (qg, .inl (cI, 16, .inl rg)), (qh, .inl (cI, 8, .inl hh))]) [0, 10, 11, 8, 9, 1, 2, 3, 4, 5, 6, 7] rfl
  have hD := hD.sub (ws' := [(h, .inr (0, [.ref qf, .ref qd, .ref qi, .ref qs, .ref qr, .ref qc, .ref qg, .ref qh])), (qf, .inr (1, [.ref qfw, .int wl])), (qfw, .inl (cI, 70, .inl fw)), (qi, .inr (3, [.ref qiw])), (qiw, .inl (cI, 16, .inl (f_IM_load so iw wl fw))), (qs, .inr (4, [.ref gm, .ref gs, .ref gc, .int sl])), (gm, .inl (cI, 32, .inl ms)), (gs, .inl (cI, 64, .inl sc)), (gc, .inl (cI, 8, .inl ch)), (qr, .inl (cI, 2, .inl (upd ru (sg).toNatClampNeg so))), (qg, .inl (cI, 16, .inl rg)), (qh, .inl (cI, 8, .inl hh))]) [0, 10, 11, 8, 9, 1, 2, 3, 4, 5, 6, 7] (by decide) rfl
  generalize H9 = H at hP hS ⊢
  refine lv_aload_n hx hb d_BC_start_19 rfl (lv_at hl 0 rfl) ?_
  refine va_get (D := (dC, dI)) (ci := 0) (v := .ref qi) (C := R_BC) (T := F_BC) (N := 8) hx hb hts in_BC hown hK hP 0 rfl rfl 2 (by decide) (hts _ gw_67) (fun _ h9 => h9) rfl d_BC_start_20 ?_
  refine lv_aload_n hx hb d_BC_start_23 rfl (lv_at hl 0 rfl) ?_
  refine va_get (D := (dC, dI)) (ci := 0) (v := .ref qh) (C := R_BC) (T := F_BC) (N := 8) hx hb hts in_BC hown hK hP 0 rfl rfl 7 (by decide) (hts _ gw_72) (fun _ h9 => h9) rfl d_BC_start_24 ?_
  refine lv_aload_n hx hb d_BC_start_27 rfl (lv_at hl 0 rfl) ?_
  refine va_get (D := (dC, dI)) (ci := 0) (v := .ref qs) (C := R_BC) (T := F_BC) (N := 8) hx hb hts in_BC hown hK hP 0 rfl rfl 3 (by decide) (hts _ gw_68) (fun _ h9 => h9) rfl d_BC_start_28 ?_
  have hPc := hP.sub (ws' := [(qi, .inr (3, [.ref qiw])), (qiw, .inl (cI, 16, .inl (f_IM_load so iw wl fw))), (qh, .inl (cI, 8, .inl hh)), (qs, .inr (4, [.ref gm, .ref gs, .ref gc, .int sl])), (gm, .inl (cI, 32, .inl ms)), (gs, .inl (cI, 64, .inl sc)), (gc, .inl (cI, 8, .inl ch))]) [3, 4, 11, 5, 6, 7, 8] rfl
  have hDc := hD.sub (ws' := [(qi, .inr (3, [.ref qiw])), (qiw, .inl (cI, 16, .inl (f_IM_load so iw wl fw))), (qh, .inl (cI, 8, .inl hh)), (qs, .inr (4, [.ref gm, .ref gs, .ref gc, .int sl])), (gm, .inl (cI, 32, .inl ms)), (gs, .inl (cI, 64, .inl sc)), (gc, .inl (cI, 8, .inl ch))]) [3, 4, 11, 5, 6, 7, 8] (by decide) rfl
  have hFc := va_free (wc := [(qi, .inr (3, [.ref qiw])), (qiw, .inl (cI, 16, .inl (f_IM_load so iw wl fw))), (qh, .inl (cI, 8, .inl hh)), (qs, .inr (4, [.ref gm, .ref gs, .ref gc, .int sl])), (gm, .inl (cI, 32, .inl ms)), (gs, .inl (cI, 64, .inl sc)), (gc, .inl (cI, 8, .inl ch))]) hD hS hA [3, 4, 11, 5, 6, 7, 8] rfl
  refine va_callv (va_runV (As := [.ref qh, .ref qs]) (rest := []) ⟨hx, hb, hml, hown, hts⟩ (c_IM_digestInto l dC dI cI cJ qi qh qs qiw gm gs gc _ (f_IM_load so iw wl fw) hh sl ms sc ch) ⟨callB_of 2 hts (bc_good gw_347) rfl rfl rfl (hts _ gw_4) (hts _ gw_344) (by decide +kernel) ⟨Nat.le_of_ble_eq_true rfl, Nat.le_of_ble_eq_true rfl⟩, (hts _ gw_345), (hts _ gw_346)⟩ ⟨bc_blind, va_recv (q0 := 3) hK hP (q := (R_IM, F_IM, 1)) rfl rfl, fun U hU hW => ⟨rfl, bc_give hPc hDc hK hE hS hFc U hU hW⟩⟩ rfl rfl hl.1 rfl (lv_room (Nat.le_of_ble_eq_true rfl)) d_BC_start_31 ⟨Nat.le_of_ble_eq_true rfl, Nat.le_of_ble_eq_true rfl⟩) hS (fun q _ h => hFc q h) hFc (fun u t H9 locs ht hvm hp hB hz1 hk1 hS => ?_)
  obtain ⟨hP, hD⟩ := va_join (wr := [(h, .inr (0, [.ref qf, .ref qd, .ref qi, .ref qs, .ref qr, .ref qc, .ref qg, .ref qh])), (qf, .inr (1, [.ref qfw, .int wl])), (qfw, .inl (cI, 70, .inl fw)), (qr, .inl (cI, 2, .inl (upd ru (sg).toNatClampNeg so))), (qg, .inl (cI, 16, .inl rg))]) (w1 := [(qi, .inr (3, [.ref qiw])), (qiw, .inl (cI, 16, .inl (f_IM_load so iw wl fw))), (qh, .inl (cI, 8, .inl ((f_IM_digestInto (f_IM_load so iw wl fw) hh sl ms sc ch).1))), (qs, .inr (4, [.ref gm, .ref gs, .ref gc, .int ((f_IM_digestInto (f_IM_load so iw wl fw) hh sl ms sc ch).2.1)])), (gm, .inl (cI, 32, .inl ((f_IM_digestInto (f_IM_load so iw wl fw) hh sl ms sc ch).2.2.1))), (gs, .inl (cI, 64, .inl ((f_IM_digestInto (f_IM_load so iw wl fw) hh sl ms sc ch).2.2.2.1))), (gc, .inl (cI, 8, .inl ((f_IM_digestInto (f_IM_load so iw wl fw) hh sl ms sc ch).2.2.2.2)))]) hP hD [3, 4, 11, 5, 6, 7, 8] [0, 1, 2, 9, 10] rfl rfl (by decide) (by decide) hk1 hFc (ht ▸ hB.1) hB.2.2
  have hP := hP.sub (ws' := [(h, .inr (0, [.ref qf, .ref qd, .ref qi, .ref qs, .ref qr, .ref qc, .ref qg, .ref qh])), (qf, .inr (1, [.ref qfw, .int wl])), (qfw, .inl (cI, 70, .inl fw)), (qi, .inr (3, [.ref qiw])), (qiw, .inl (cI, 16, .inl (f_IM_load so iw wl fw))), (qs, .inr (4, [.ref gm, .ref gs, .ref gc, .int ((f_IM_digestInto (f_IM_load so iw wl fw) hh sl ms sc ch).2.1)])), (gm, .inl (cI, 32, .inl ((f_IM_digestInto (f_IM_load so iw wl fw) hh sl ms sc ch).2.2.1))), (gs, .inl (cI, 64, .inl ((f_IM_digestInto (f_IM_load so iw wl fw) hh sl ms sc ch).2.2.2.1))), (gc, .inl (cI, 8, .inl ((f_IM_digestInto (f_IM_load so iw wl fw) hh sl ms sc ch).2.2.2.2))), (qr, .inl (cI, 2, .inl (upd ru (sg).toNatClampNeg so))), (qg, .inl (cI, 16, .inl rg)), (qh, .inl (cI, 8, .inl ((f_IM_digestInto (f_IM_load so iw wl fw) hh sl ms sc ch).1)))]) [0, 1, 2, 5, 6, 8, 9, 10, 11, 3, 4, 7] rfl
  have hD := hD.sub (ws' := [(h, .inr (0, [.ref qf, .ref qd, .ref qi, .ref qs, .ref qr, .ref qc, .ref qg, .ref qh])), (qf, .inr (1, [.ref qfw, .int wl])), (qfw, .inl (cI, 70, .inl fw)), (qi, .inr (3, [.ref qiw])), (qiw, .inl (cI, 16, .inl (f_IM_load so iw wl fw))), (qs, .inr (4, [.ref gm, .ref gs, .ref gc, .int ((f_IM_digestInto (f_IM_load so iw wl fw) hh sl ms sc ch).2.1)])), (gm, .inl (cI, 32, .inl ((f_IM_digestInto (f_IM_load so iw wl fw) hh sl ms sc ch).2.2.1))), (gs, .inl (cI, 64, .inl ((f_IM_digestInto (f_IM_load so iw wl fw) hh sl ms sc ch).2.2.2.1))), (gc, .inl (cI, 8, .inl ((f_IM_digestInto (f_IM_load so iw wl fw) hh sl ms sc ch).2.2.2.2))), (qr, .inl (cI, 2, .inl (upd ru (sg).toNatClampNeg so))), (qg, .inl (cI, 16, .inl rg)), (qh, .inl (cI, 8, .inl ((f_IM_digestInto (f_IM_load so iw wl fw) hh sl ms sc ch).1)))]) [0, 1, 2, 5, 6, 8, 9, 10, 11, 3, 4, 7] (by decide) rfl
  generalize H9 = H at hP hS ⊢
  have e0 : (f_BC_start sg so wl fw iw sl ms sc ch ru rg hh) = f_BC_start_c1 sg so wl fw iw sl ms sc ch ru rg hh (f_IM_digestInto (f_IM_load so iw wl fw) hh sl ms sc ch) := by rw [f_BC_start]
  rw [e0]
  generalize hu1 : (f_IM_digestInto (f_IM_load so iw wl fw) hh sl ms sc ch) = u1 at hP hD ⊢
  have hP : va_P (dC, dI) classes [(h, .inr (0, [.ref qf, .ref qd, .ref qi, .ref qs, .ref qr, .ref qc, .ref qg, .ref qh])), (qf, .inr (1, [.ref qfw, .int wl])), (qfw, .inl (cI, 70, .inl fw)), (qi, .inr (3, [.ref qiw])), (qiw, .inl (cI, 16, .inl (f_IM_load so iw wl fw))), (qs, .inr (4, [.ref gm, .ref gs, .ref gc, .int (u1.2.1)])), (gm, .inl (cI, 32, .inl (u1.2.2.1))), (gs, .inl (cI, 64, .inl (u1.2.2.2.1))), (gc, .inl (cI, 8, .inl (u1.2.2.2.2))), (qr, .inl (cI, 2, .inl (upd ru (sg).toNatClampNeg so))), (qg, .inl (cI, 16, .inl rg)), (qh, .inl (cI, 8, .inl (u1.1)))] H := hP
  have hD : va_D A [(h, .inr (0, [.ref qf, .ref qd, .ref qi, .ref qs, .ref qr, .ref qc, .ref qg, .ref qh])), (qf, .inr (1, [.ref qfw, .int wl])), (qfw, .inl (cI, 70, .inl fw)), (qi, .inr (3, [.ref qiw])), (qiw, .inl (cI, 16, .inl (f_IM_load so iw wl fw))), (qs, .inr (4, [.ref gm, .ref gs, .ref gc, .int (u1.2.1)])), (gm, .inl (cI, 32, .inl (u1.2.2.1))), (gs, .inl (cI, 64, .inl (u1.2.2.2.1))), (gc, .inl (cI, 8, .inl (u1.2.2.2.2))), (qr, .inl (cI, 2, .inl (upd ru (sg).toNatClampNeg so))), (qg, .inl (cI, 16, .inl rg)), (qh, .inl (cI, 8, .inl (u1.1)))] := hD
  refine lv_aload_n hx hb d_BC_start_34 rfl (lv_at hl 0 rfl) ?_
  refine va_get (D := (dC, dI)) (ci := 0) (v := .ref qs) (C := R_BC) (T := F_BC) (N := 8) hx hb hts in_BC hown hK hP 0 rfl rfl 3 (by decide) (hts _ gw_68) (fun _ h9 => h9) rfl d_BC_start_35 ?_
  have hPc := hP.sub (ws' := [(qs, .inr (4, [.ref gm, .ref gs, .ref gc, .int (u1.2.1)])), (gm, .inl (cI, 32, .inl (u1.2.2.1))), (gs, .inl (cI, 64, .inl (u1.2.2.2.1))), (gc, .inl (cI, 8, .inl (u1.2.2.2.2)))]) [5, 6, 7, 8] rfl
  have hDc := hD.sub (ws' := [(qs, .inr (4, [.ref gm, .ref gs, .ref gc, .int (u1.2.1)])), (gm, .inl (cI, 32, .inl (u1.2.2.1))), (gs, .inl (cI, 64, .inl (u1.2.2.2.1))), (gc, .inl (cI, 8, .inl (u1.2.2.2.2)))]) [5, 6, 7, 8] (by decide) rfl
  have hFc := va_free (wc := [(qs, .inr (4, [.ref gm, .ref gs, .ref gc, .int (u1.2.1)])), (gm, .inl (cI, 32, .inl (u1.2.2.1))), (gs, .inl (cI, 64, .inl (u1.2.2.2.1))), (gc, .inl (cI, 8, .inl (u1.2.2.2.2)))]) hD hS hA [5, 6, 7, 8] rfl
  refine va_callv (va_runV (As := []) (rest := []) ⟨hx, hb, hml, hown, hts⟩ (c_SH_begin l dC dI cI cJ qs gm gs gc _ (u1.2.1) (u1.2.2.1) (u1.2.2.2.1) (u1.2.2.2.2)) ⟨callB_of 0 hts (bc_good gw_213) rfl rfl rfl (hts _ gw_5) (hts _ gw_348) (by decide +kernel) ⟨Nat.le_of_ble_eq_true rfl, Nat.le_of_ble_eq_true rfl⟩, (hts _ gw_211), (hts _ gw_212)⟩ ⟨bc_blind, va_recv (q0 := 5) hK hP (q := (R_SH, F_SH, 4)) rfl rfl, fun U hU hW => ⟨rfl, bc_give hPc hDc hK hE hS hFc U hU hW⟩⟩ rfl rfl hl.1 rfl (lv_room (Nat.le_of_ble_eq_true rfl)) d_BC_start_38 ⟨Nat.le_of_ble_eq_true rfl, Nat.le_of_ble_eq_true rfl⟩) hS (fun q _ h => hFc q h) hFc (fun u t H9 locs ht hvm hp hB hz1 hk1 hS => ?_)
  obtain ⟨hP, hD⟩ := va_join (wr := [(h, .inr (0, [.ref qf, .ref qd, .ref qi, .ref qs, .ref qr, .ref qc, .ref qg, .ref qh])), (qf, .inr (1, [.ref qfw, .int wl])), (qfw, .inl (cI, 70, .inl fw)), (qi, .inr (3, [.ref qiw])), (qiw, .inl (cI, 16, .inl (f_IM_load so iw wl fw))), (qr, .inl (cI, 2, .inl (upd ru (sg).toNatClampNeg so))), (qg, .inl (cI, 16, .inl rg)), (qh, .inl (cI, 8, .inl (u1.1)))]) (w1 := [(qs, .inr (4, [.ref gm, .ref gs, .ref gc, .int ((f_SH_begin (u1.2.1) (u1.2.2.1) (u1.2.2.2.1) (u1.2.2.2.2)))])), (gm, .inl (cI, 32, .inl (u1.2.2.1))), (gs, .inl (cI, 64, .inl (u1.2.2.2.1))), (gc, .inl (cI, 8, .inl (u1.2.2.2.2)))]) hP hD [5, 6, 7, 8] [0, 1, 2, 3, 4, 9, 10, 11] rfl rfl (by decide) (by decide) hk1 hFc (ht ▸ hB.1) hB.2.2
  have hP := hP.sub (ws' := [(h, .inr (0, [.ref qf, .ref qd, .ref qi, .ref qs, .ref qr, .ref qc, .ref qg, .ref qh])), (qf, .inr (1, [.ref qfw, .int wl])), (qfw, .inl (cI, 70, .inl fw)), (qi, .inr (3, [.ref qiw])), (qiw, .inl (cI, 16, .inl (f_IM_load so iw wl fw))), (qs, .inr (4, [.ref gm, .ref gs, .ref gc, .int ((f_SH_begin (u1.2.1) (u1.2.2.1) (u1.2.2.2.1) (u1.2.2.2.2)))])), (gm, .inl (cI, 32, .inl (u1.2.2.1))), (gs, .inl (cI, 64, .inl (u1.2.2.2.1))), (gc, .inl (cI, 8, .inl (u1.2.2.2.2))), (qr, .inl (cI, 2, .inl (upd ru (sg).toNatClampNeg so))), (qg, .inl (cI, 16, .inl rg)), (qh, .inl (cI, 8, .inl (u1.1)))]) [0, 1, 2, 3, 4, 8, 9, 10, 11, 5, 6, 7] rfl
  have hD := hD.sub (ws' := [(h, .inr (0, [.ref qf, .ref qd, .ref qi, .ref qs, .ref qr, .ref qc, .ref qg, .ref qh])), (qf, .inr (1, [.ref qfw, .int wl])), (qfw, .inl (cI, 70, .inl fw)), (qi, .inr (3, [.ref qiw])), (qiw, .inl (cI, 16, .inl (f_IM_load so iw wl fw))), (qs, .inr (4, [.ref gm, .ref gs, .ref gc, .int ((f_SH_begin (u1.2.1) (u1.2.2.1) (u1.2.2.2.1) (u1.2.2.2.2)))])), (gm, .inl (cI, 32, .inl (u1.2.2.1))), (gs, .inl (cI, 64, .inl (u1.2.2.2.1))), (gc, .inl (cI, 8, .inl (u1.2.2.2.2))), (qr, .inl (cI, 2, .inl (upd ru (sg).toNatClampNeg so))), (qg, .inl (cI, 16, .inl rg)), (qh, .inl (cI, 8, .inl (u1.1)))]) [0, 1, 2, 3, 4, 8, 9, 10, 11, 5, 6, 7] (by decide) rfl
  generalize H9 = H at hP hS ⊢
  refine lv_aload_n hx hb d_BC_start_41 rfl (lv_at hl 0 rfl) ?_
  refine va_get (D := (dC, dI)) (ci := 0) (v := .ref qs) (C := R_BC) (T := F_BC) (N := 8) hx hb hts in_BC hown hK hP 0 rfl rfl 3 (by decide) (hts _ gw_68) (fun _ h9 => h9) rfl d_BC_start_42 ?_
  refine lv_aload_n hx hb d_BC_start_45 rfl (lv_at hl 0 rfl) ?_
  refine va_get (D := (dC, dI)) (ci := 0) (v := .ref qg) (C := R_BC) (T := F_BC) (N := 8) hx hb hts in_BC hown hK hP 0 rfl rfl 6 (by decide) (hts _ gw_71) (fun _ h9 => h9) rfl d_BC_start_46 ?_
  refine lv_bipush (v := 8) hx hb d_BC_start_49 (by decide) ?_
  refine lv_iload_n hx hb d_BC_start_51 rfl (lv_at hl 1 rfl) ?_
  refine lv_imul hx hb d_BC_start_52 ?_
  refine lv_bipush (v := 8) hx hb d_BC_start_53 (by decide) ?_
  have hPc := hP.sub (ws' := [(qs, .inr (4, [.ref gm, .ref gs, .ref gc, .int ((f_SH_begin (u1.2.1) (u1.2.2.1) (u1.2.2.2.1) (u1.2.2.2.2)))])), (gm, .inl (cI, 32, .inl (u1.2.2.1))), (gs, .inl (cI, 64, .inl (u1.2.2.2.1))), (gc, .inl (cI, 8, .inl (u1.2.2.2.2))), (qg, .inl (cI, 16, .inl rg))]) [5, 6, 7, 8, 10] rfl
  have hDc := hD.sub (ws' := [(qs, .inr (4, [.ref gm, .ref gs, .ref gc, .int ((f_SH_begin (u1.2.1) (u1.2.2.1) (u1.2.2.2.1) (u1.2.2.2.2)))])), (gm, .inl (cI, 32, .inl (u1.2.2.1))), (gs, .inl (cI, 64, .inl (u1.2.2.2.1))), (gc, .inl (cI, 8, .inl (u1.2.2.2.2))), (qg, .inl (cI, 16, .inl rg))]) [5, 6, 7, 8, 10] (by decide) rfl
  have hFc := va_free (wc := [(qs, .inr (4, [.ref gm, .ref gs, .ref gc, .int ((f_SH_begin (u1.2.1) (u1.2.2.1) (u1.2.2.2.1) (u1.2.2.2.2)))])), (gm, .inl (cI, 32, .inl (u1.2.2.1))), (gs, .inl (cI, 64, .inl (u1.2.2.2.1))), (gc, .inl (cI, 8, .inl (u1.2.2.2.2))), (qg, .inl (cI, 16, .inl rg))]) hD hS hA [5, 6, 7, 8, 10] rfl
  refine va_callv (va_runV (As := [.ref qg, .int ((8 : Int32) * sg), .int (8 : Int32)]) (rest := []) ⟨hx, hb, hml, hown, hts⟩ (c_SH_addRow l dC dI cI cJ qs qg gm gs gc _ 16 ((8 : Int32) * sg) (8 : Int32) ((f_SH_begin (u1.2.1) (u1.2.2.1) (u1.2.2.2.1) (u1.2.2.2.2))) (u1.2.2.1) (u1.2.2.2.1) (u1.2.2.2.2) rg b24 (ro_reg hsg)) ⟨callB_of 3 hts (bc_good gw_225) rfl rfl rfl (hts _ gw_5) (hts _ gw_349) (by decide +kernel) ⟨Nat.le_of_ble_eq_true rfl, Nat.le_of_ble_eq_true rfl⟩, (hts _ gw_223), (hts _ gw_224)⟩ ⟨bc_blind, va_recv (q0 := 5) hK hP (q := (R_SH, F_SH, 4)) rfl rfl, fun U hU hW => ⟨rfl, bc_give hPc hDc hK hE hS hFc U hU hW⟩⟩ rfl rfl hl.1 rfl (lv_room (Nat.le_of_ble_eq_true rfl)) d_BC_start_55 ⟨Nat.le_of_ble_eq_true rfl, Nat.le_of_ble_eq_true rfl⟩) hS (fun q _ h => hFc q h) hFc (fun u t H9 locs ht hvm hp hB hz1 hk1 hS => ?_)
  obtain ⟨hP, hD⟩ := va_join (wr := [(h, .inr (0, [.ref qf, .ref qd, .ref qi, .ref qs, .ref qr, .ref qc, .ref qg, .ref qh])), (qf, .inr (1, [.ref qfw, .int wl])), (qfw, .inl (cI, 70, .inl fw)), (qi, .inr (3, [.ref qiw])), (qiw, .inl (cI, 16, .inl (f_IM_load so iw wl fw))), (qr, .inl (cI, 2, .inl (upd ru (sg).toNatClampNeg so))), (qh, .inl (cI, 8, .inl (u1.1)))]) (w1 := [(qs, .inr (4, [.ref gm, .ref gs, .ref gc, .int ((f_SH_addRow 16 ((8 : Int32) * sg) (8 : Int32) ((f_SH_begin (u1.2.1) (u1.2.2.1) (u1.2.2.2.1) (u1.2.2.2.2))) (u1.2.2.1) (u1.2.2.2.1) (u1.2.2.2.2) rg).1)])), (gm, .inl (cI, 32, .inl ((f_SH_addRow 16 ((8 : Int32) * sg) (8 : Int32) ((f_SH_begin (u1.2.1) (u1.2.2.1) (u1.2.2.2.1) (u1.2.2.2.2))) (u1.2.2.1) (u1.2.2.2.1) (u1.2.2.2.2) rg).2))), (gs, .inl (cI, 64, .inl (u1.2.2.2.1))), (gc, .inl (cI, 8, .inl (u1.2.2.2.2))), (qg, .inl (cI, 16, .inl rg))]) hP hD [5, 6, 7, 8, 10] [0, 1, 2, 3, 4, 9, 11] rfl rfl (by decide) (by decide) hk1 hFc (ht ▸ hB.1) hB.2.2
  have hP := hP.sub (ws' := [(h, .inr (0, [.ref qf, .ref qd, .ref qi, .ref qs, .ref qr, .ref qc, .ref qg, .ref qh])), (qf, .inr (1, [.ref qfw, .int wl])), (qfw, .inl (cI, 70, .inl fw)), (qi, .inr (3, [.ref qiw])), (qiw, .inl (cI, 16, .inl (f_IM_load so iw wl fw))), (qs, .inr (4, [.ref gm, .ref gs, .ref gc, .int ((f_SH_addRow 16 ((8 : Int32) * sg) (8 : Int32) ((f_SH_begin (u1.2.1) (u1.2.2.1) (u1.2.2.2.1) (u1.2.2.2.2))) (u1.2.2.1) (u1.2.2.2.1) (u1.2.2.2.2) rg).1)])), (gm, .inl (cI, 32, .inl ((f_SH_addRow 16 ((8 : Int32) * sg) (8 : Int32) ((f_SH_begin (u1.2.1) (u1.2.2.1) (u1.2.2.2.1) (u1.2.2.2.2))) (u1.2.2.1) (u1.2.2.2.1) (u1.2.2.2.2) rg).2))), (gs, .inl (cI, 64, .inl (u1.2.2.2.1))), (gc, .inl (cI, 8, .inl (u1.2.2.2.2))), (qr, .inl (cI, 2, .inl (upd ru (sg).toNatClampNeg so))), (qg, .inl (cI, 16, .inl rg)), (qh, .inl (cI, 8, .inl (u1.1)))]) [0, 1, 2, 3, 4, 7, 8, 9, 10, 5, 11, 6] rfl
  have hD := hD.sub (ws' := [(h, .inr (0, [.ref qf, .ref qd, .ref qi, .ref qs, .ref qr, .ref qc, .ref qg, .ref qh])), (qf, .inr (1, [.ref qfw, .int wl])), (qfw, .inl (cI, 70, .inl fw)), (qi, .inr (3, [.ref qiw])), (qiw, .inl (cI, 16, .inl (f_IM_load so iw wl fw))), (qs, .inr (4, [.ref gm, .ref gs, .ref gc, .int ((f_SH_addRow 16 ((8 : Int32) * sg) (8 : Int32) ((f_SH_begin (u1.2.1) (u1.2.2.1) (u1.2.2.2.1) (u1.2.2.2.2))) (u1.2.2.1) (u1.2.2.2.1) (u1.2.2.2.2) rg).1)])), (gm, .inl (cI, 32, .inl ((f_SH_addRow 16 ((8 : Int32) * sg) (8 : Int32) ((f_SH_begin (u1.2.1) (u1.2.2.1) (u1.2.2.2.1) (u1.2.2.2.2))) (u1.2.2.1) (u1.2.2.2.1) (u1.2.2.2.2) rg).2))), (gs, .inl (cI, 64, .inl (u1.2.2.2.1))), (gc, .inl (cI, 8, .inl (u1.2.2.2.2))), (qr, .inl (cI, 2, .inl (upd ru (sg).toNatClampNeg so))), (qg, .inl (cI, 16, .inl rg)), (qh, .inl (cI, 8, .inl (u1.1)))]) [0, 1, 2, 3, 4, 7, 8, 9, 10, 5, 11, 6] (by decide) rfl
  generalize H9 = H at hP hS ⊢
  have e0 : (f_BC_start_c1 sg so wl fw iw sl ms sc ch ru rg hh u1) = f_BC_start_c2 sg so wl fw iw sl ms sc ch ru rg hh u1 (f_SH_addRow 16 ((8 : Int32) * sg) (8 : Int32) ((f_SH_begin (u1.2.1) (u1.2.2.1) (u1.2.2.2.1) (u1.2.2.2.2))) (u1.2.2.1) (u1.2.2.2.1) (u1.2.2.2.2) rg) := by rw [f_BC_start_c1]
  rw [e0]
  generalize hu2 : (f_SH_addRow 16 ((8 : Int32) * sg) (8 : Int32) ((f_SH_begin (u1.2.1) (u1.2.2.1) (u1.2.2.2.1) (u1.2.2.2.2))) (u1.2.2.1) (u1.2.2.2.1) (u1.2.2.2.2) rg) = u2 at hP hD ⊢
  have hP : va_P (dC, dI) classes [(h, .inr (0, [.ref qf, .ref qd, .ref qi, .ref qs, .ref qr, .ref qc, .ref qg, .ref qh])), (qf, .inr (1, [.ref qfw, .int wl])), (qfw, .inl (cI, 70, .inl fw)), (qi, .inr (3, [.ref qiw])), (qiw, .inl (cI, 16, .inl (f_IM_load so iw wl fw))), (qs, .inr (4, [.ref gm, .ref gs, .ref gc, .int (u2.1)])), (gm, .inl (cI, 32, .inl (u2.2))), (gs, .inl (cI, 64, .inl (u1.2.2.2.1))), (gc, .inl (cI, 8, .inl (u1.2.2.2.2))), (qr, .inl (cI, 2, .inl (upd ru (sg).toNatClampNeg so))), (qg, .inl (cI, 16, .inl rg)), (qh, .inl (cI, 8, .inl (u1.1)))] H := hP
  have hD : va_D A [(h, .inr (0, [.ref qf, .ref qd, .ref qi, .ref qs, .ref qr, .ref qc, .ref qg, .ref qh])), (qf, .inr (1, [.ref qfw, .int wl])), (qfw, .inl (cI, 70, .inl fw)), (qi, .inr (3, [.ref qiw])), (qiw, .inl (cI, 16, .inl (f_IM_load so iw wl fw))), (qs, .inr (4, [.ref gm, .ref gs, .ref gc, .int (u2.1)])), (gm, .inl (cI, 32, .inl (u2.2))), (gs, .inl (cI, 64, .inl (u1.2.2.2.1))), (gc, .inl (cI, 8, .inl (u1.2.2.2.2))), (qr, .inl (cI, 2, .inl (upd ru (sg).toNatClampNeg so))), (qg, .inl (cI, 16, .inl rg)), (qh, .inl (cI, 8, .inl (u1.1)))] := hD
  refine lv_aload_n hx hb d_BC_start_58 rfl (lv_at hl 0 rfl) ?_
  refine va_get (D := (dC, dI)) (ci := 0) (v := .ref qs) (C := R_BC) (T := F_BC) (N := 8) hx hb hts in_BC hown hK hP 0 rfl rfl 3 (by decide) (hts _ gw_68) (fun _ h9 => h9) rfl d_BC_start_59 ?_
  refine lv_aload_n hx hb d_BC_start_62 rfl (lv_at hl 0 rfl) ?_
  refine va_get (D := (dC, dI)) (ci := 0) (v := .ref qh) (C := R_BC) (T := F_BC) (N := 8) hx hb hts in_BC hown hK hP 0 rfl rfl 7 (by decide) (hts _ gw_72) (fun _ h9 => h9) rfl d_BC_start_63 ?_
  refine lv_iconst (v := 0) hx hb d_BC_start_66 (by decide) ?_
  refine lv_bipush (v := 8) hx hb d_BC_start_67 (by decide) ?_
  have hPc := hP.sub (ws' := [(qs, .inr (4, [.ref gm, .ref gs, .ref gc, .int (u2.1)])), (gm, .inl (cI, 32, .inl (u2.2))), (gs, .inl (cI, 64, .inl (u1.2.2.2.1))), (gc, .inl (cI, 8, .inl (u1.2.2.2.2))), (qh, .inl (cI, 8, .inl (u1.1)))]) [5, 6, 7, 8, 11] rfl
  have hDc := hD.sub (ws' := [(qs, .inr (4, [.ref gm, .ref gs, .ref gc, .int (u2.1)])), (gm, .inl (cI, 32, .inl (u2.2))), (gs, .inl (cI, 64, .inl (u1.2.2.2.1))), (gc, .inl (cI, 8, .inl (u1.2.2.2.2))), (qh, .inl (cI, 8, .inl (u1.1)))]) [5, 6, 7, 8, 11] (by decide) rfl
  have hFc := va_free (wc := [(qs, .inr (4, [.ref gm, .ref gs, .ref gc, .int (u2.1)])), (gm, .inl (cI, 32, .inl (u2.2))), (gs, .inl (cI, 64, .inl (u1.2.2.2.1))), (gc, .inl (cI, 8, .inl (u1.2.2.2.2))), (qh, .inl (cI, 8, .inl (u1.1)))]) hD hS hA [5, 6, 7, 8, 11] rfl
  refine va_callv (va_runV (As := [.ref qh, .int (0 : Int32), .int (8 : Int32)]) (rest := []) ⟨hx, hb, hml, hown, hts⟩ (c_SH_addRow l dC dI cI cJ qs qh gm gs gc _ 8 (0 : Int32) (8 : Int32) (u2.1) (u2.2) (u1.2.2.2.1) (u1.2.2.2.2) (u1.1) (by rw [← hu2]; exact p_row _ _ _ _ _ _ _ _ b24) (fun x h0 h1 => ix_off 0 8 8 h0 h1 rfl (by decide) (by decide))) ⟨callB_of 3 hts (bc_good gw_225) rfl rfl rfl (hts _ gw_5) (hts _ gw_349) (by decide +kernel) ⟨Nat.le_of_ble_eq_true rfl, Nat.le_of_ble_eq_true rfl⟩, (hts _ gw_223), (hts _ gw_224)⟩ ⟨bc_blind, va_recv (q0 := 5) hK hP (q := (R_SH, F_SH, 4)) rfl rfl, fun U hU hW => ⟨rfl, bc_give hPc hDc hK hE hS hFc U hU hW⟩⟩ rfl rfl hl.1 rfl (lv_room (Nat.le_of_ble_eq_true rfl)) d_BC_start_69 ⟨Nat.le_of_ble_eq_true rfl, Nat.le_of_ble_eq_true rfl⟩) hS (fun q _ h => hFc q h) hFc (fun u t H9 locs ht hvm hp hB hz1 hk1 hS => ?_)
  obtain ⟨hP, hD⟩ := va_join (wr := [(h, .inr (0, [.ref qf, .ref qd, .ref qi, .ref qs, .ref qr, .ref qc, .ref qg, .ref qh])), (qf, .inr (1, [.ref qfw, .int wl])), (qfw, .inl (cI, 70, .inl fw)), (qi, .inr (3, [.ref qiw])), (qiw, .inl (cI, 16, .inl (f_IM_load so iw wl fw))), (qr, .inl (cI, 2, .inl (upd ru (sg).toNatClampNeg so))), (qg, .inl (cI, 16, .inl rg))]) (w1 := [(qs, .inr (4, [.ref gm, .ref gs, .ref gc, .int ((f_SH_addRow 8 (0 : Int32) (8 : Int32) (u2.1) (u2.2) (u1.2.2.2.1) (u1.2.2.2.2) (u1.1)).1)])), (gm, .inl (cI, 32, .inl ((f_SH_addRow 8 (0 : Int32) (8 : Int32) (u2.1) (u2.2) (u1.2.2.2.1) (u1.2.2.2.2) (u1.1)).2))), (gs, .inl (cI, 64, .inl (u1.2.2.2.1))), (gc, .inl (cI, 8, .inl (u1.2.2.2.2))), (qh, .inl (cI, 8, .inl (u1.1)))]) hP hD [5, 6, 7, 8, 11] [0, 1, 2, 3, 4, 9, 10] rfl rfl (by decide) (by decide) hk1 hFc (ht ▸ hB.1) hB.2.2
  have hP := hP.sub (ws' := [(h, .inr (0, [.ref qf, .ref qd, .ref qi, .ref qs, .ref qr, .ref qc, .ref qg, .ref qh])), (qf, .inr (1, [.ref qfw, .int wl])), (qfw, .inl (cI, 70, .inl fw)), (qi, .inr (3, [.ref qiw])), (qiw, .inl (cI, 16, .inl (f_IM_load so iw wl fw))), (qs, .inr (4, [.ref gm, .ref gs, .ref gc, .int ((f_SH_addRow 8 (0 : Int32) (8 : Int32) (u2.1) (u2.2) (u1.2.2.2.1) (u1.2.2.2.2) (u1.1)).1)])), (gm, .inl (cI, 32, .inl ((f_SH_addRow 8 (0 : Int32) (8 : Int32) (u2.1) (u2.2) (u1.2.2.2.1) (u1.2.2.2.2) (u1.1)).2))), (gs, .inl (cI, 64, .inl (u1.2.2.2.1))), (gc, .inl (cI, 8, .inl (u1.2.2.2.2))), (qr, .inl (cI, 2, .inl (upd ru (sg).toNatClampNeg so))), (qg, .inl (cI, 16, .inl rg)), (qh, .inl (cI, 8, .inl (u1.1)))]) [0, 1, 2, 3, 4, 7, 8, 9, 10, 5, 6, 11] rfl
  have hD := hD.sub (ws' := [(h, .inr (0, [.ref qf, .ref qd, .ref qi, .ref qs, .ref qr, .ref qc, .ref qg, .ref qh])), (qf, .inr (1, [.ref qfw, .int wl])), (qfw, .inl (cI, 70, .inl fw)), (qi, .inr (3, [.ref qiw])), (qiw, .inl (cI, 16, .inl (f_IM_load so iw wl fw))), (qs, .inr (4, [.ref gm, .ref gs, .ref gc, .int ((f_SH_addRow 8 (0 : Int32) (8 : Int32) (u2.1) (u2.2) (u1.2.2.2.1) (u1.2.2.2.2) (u1.1)).1)])), (gm, .inl (cI, 32, .inl ((f_SH_addRow 8 (0 : Int32) (8 : Int32) (u2.1) (u2.2) (u1.2.2.2.1) (u1.2.2.2.2) (u1.1)).2))), (gs, .inl (cI, 64, .inl (u1.2.2.2.1))), (gc, .inl (cI, 8, .inl (u1.2.2.2.2))), (qr, .inl (cI, 2, .inl (upd ru (sg).toNatClampNeg so))), (qg, .inl (cI, 16, .inl rg)), (qh, .inl (cI, 8, .inl (u1.1)))]) [0, 1, 2, 3, 4, 7, 8, 9, 10, 5, 6, 11] (by decide) rfl
  generalize H9 = H at hP hS ⊢
  have e0 : (f_BC_start_c2 sg so wl fw iw sl ms sc ch ru rg hh u1 u2) = f_BC_start_c3 sg so wl fw iw sl ms sc ch ru rg hh u1 u2 (f_SH_addRow 8 (0 : Int32) (8 : Int32) (u2.1) (u2.2) (u1.2.2.2.1) (u1.2.2.2.2) (u1.1)) := by rw [f_BC_start_c2]
  rw [e0]
  generalize hu3 : (f_SH_addRow 8 (0 : Int32) (8 : Int32) (u2.1) (u2.2) (u1.2.2.2.1) (u1.2.2.2.2) (u1.1)) = u3 at hP hD ⊢
  have hP : va_P (dC, dI) classes [(h, .inr (0, [.ref qf, .ref qd, .ref qi, .ref qs, .ref qr, .ref qc, .ref qg, .ref qh])), (qf, .inr (1, [.ref qfw, .int wl])), (qfw, .inl (cI, 70, .inl fw)), (qi, .inr (3, [.ref qiw])), (qiw, .inl (cI, 16, .inl (f_IM_load so iw wl fw))), (qs, .inr (4, [.ref gm, .ref gs, .ref gc, .int (u3.1)])), (gm, .inl (cI, 32, .inl (u3.2))), (gs, .inl (cI, 64, .inl (u1.2.2.2.1))), (gc, .inl (cI, 8, .inl (u1.2.2.2.2))), (qr, .inl (cI, 2, .inl (upd ru (sg).toNatClampNeg so))), (qg, .inl (cI, 16, .inl rg)), (qh, .inl (cI, 8, .inl (u1.1)))] H := hP
  have hD : va_D A [(h, .inr (0, [.ref qf, .ref qd, .ref qi, .ref qs, .ref qr, .ref qc, .ref qg, .ref qh])), (qf, .inr (1, [.ref qfw, .int wl])), (qfw, .inl (cI, 70, .inl fw)), (qi, .inr (3, [.ref qiw])), (qiw, .inl (cI, 16, .inl (f_IM_load so iw wl fw))), (qs, .inr (4, [.ref gm, .ref gs, .ref gc, .int (u3.1)])), (gm, .inl (cI, 32, .inl (u3.2))), (gs, .inl (cI, 64, .inl (u1.2.2.2.1))), (gc, .inl (cI, 8, .inl (u1.2.2.2.2))), (qr, .inl (cI, 2, .inl (upd ru (sg).toNatClampNeg so))), (qg, .inl (cI, 16, .inl rg)), (qh, .inl (cI, 8, .inl (u1.1)))] := hD
  refine lv_aload_n hx hb d_BC_start_72 rfl (lv_at hl 0 rfl) ?_
  refine va_get (D := (dC, dI)) (ci := 0) (v := .ref qs) (C := R_BC) (T := F_BC) (N := 8) hx hb hts in_BC hown hK hP 0 rfl rfl 3 (by decide) (hts _ gw_68) (fun _ h9 => h9) rfl d_BC_start_73 ?_
  refine lv_aload_n hx hb d_BC_start_76 rfl (lv_at hl 0 rfl) ?_
  refine va_get (D := (dC, dI)) (ci := 0) (v := .ref qg) (C := R_BC) (T := F_BC) (N := 8) hx hb hts in_BC hown hK hP 0 rfl rfl 6 (by decide) (hts _ gw_71) (fun _ h9 => h9) rfl d_BC_start_77 ?_
  refine lv_bipush (v := 8) hx hb d_BC_start_80 (by decide) ?_
  refine lv_iload_n hx hb d_BC_start_82 rfl (lv_at hl 1 rfl) ?_
  refine lv_imul hx hb d_BC_start_83 ?_
  have hPc := hP.sub (ws' := [(qs, .inr (4, [.ref gm, .ref gs, .ref gc, .int (u3.1)])), (gm, .inl (cI, 32, .inl (u3.2))), (gs, .inl (cI, 64, .inl (u1.2.2.2.1))), (gc, .inl (cI, 8, .inl (u1.2.2.2.2))), (qg, .inl (cI, 16, .inl rg))]) [5, 6, 7, 8, 10] rfl
  have hDc := hD.sub (ws' := [(qs, .inr (4, [.ref gm, .ref gs, .ref gc, .int (u3.1)])), (gm, .inl (cI, 32, .inl (u3.2))), (gs, .inl (cI, 64, .inl (u1.2.2.2.1))), (gc, .inl (cI, 8, .inl (u1.2.2.2.2))), (qg, .inl (cI, 16, .inl rg))]) [5, 6, 7, 8, 10] (by decide) rfl
  have hFc := va_free (wc := [(qs, .inr (4, [.ref gm, .ref gs, .ref gc, .int (u3.1)])), (gm, .inl (cI, 32, .inl (u3.2))), (gs, .inl (cI, 64, .inl (u1.2.2.2.1))), (gc, .inl (cI, 8, .inl (u1.2.2.2.2))), (qg, .inl (cI, 16, .inl rg))]) hD hS hA [5, 6, 7, 8, 10] rfl
  refine va_callv (va_runV (As := [.ref qg, .int ((8 : Int32) * sg)]) (rest := []) ⟨hx, hb, hml, hown, hts⟩ (c_SH_finish l dC dI cI cJ qs qg gm gs gc _ 16 ((8 : Int32) * sg) (u3.1) (u3.2) (u1.2.2.2.1) (u1.2.2.2.2) rg (by rw [← hu3]; exact p_row _ _ _ _ _ _ _ _ (by rw [← hu2]; exact p_row _ _ _ _ _ _ _ _ b24)) (ro_reg hsg)) ⟨callB_of 2 hts (bc_good gw_229) rfl rfl rfl (hts _ gw_5) (hts _ gw_350) (by decide +kernel) ⟨Nat.le_of_ble_eq_true rfl, Nat.le_of_ble_eq_true rfl⟩, (hts _ gw_227), (hts _ gw_228)⟩ ⟨bc_blind, va_recv (q0 := 5) hK hP (q := (R_SH, F_SH, 4)) rfl rfl, fun U hU hW => ⟨rfl, bc_give hPc hDc hK hE hS hFc U hU hW⟩⟩ rfl rfl hl.1 rfl (lv_room (Nat.le_of_ble_eq_true rfl)) d_BC_start_84 ⟨Nat.le_of_ble_eq_true rfl, Nat.le_of_ble_eq_true rfl⟩) hS (fun q _ h => hFc q h) hFc (fun u t H9 locs ht hvm hp hB hz1 hk1 hS => ?_)
  obtain ⟨hP, hD⟩ := va_join (wr := [(h, .inr (0, [.ref qf, .ref qd, .ref qi, .ref qs, .ref qr, .ref qc, .ref qg, .ref qh])), (qf, .inr (1, [.ref qfw, .int wl])), (qfw, .inl (cI, 70, .inl fw)), (qi, .inr (3, [.ref qiw])), (qiw, .inl (cI, 16, .inl (f_IM_load so iw wl fw))), (qr, .inl (cI, 2, .inl (upd ru (sg).toNatClampNeg so))), (qh, .inl (cI, 8, .inl (u1.1)))]) (w1 := [(qs, .inr (4, [.ref gm, .ref gs, .ref gc, .int (u3.1)])), (gm, .inl (cI, 32, .inl ((f_SH_finish 16 ((8 : Int32) * sg) (u3.1) (u3.2) (u1.2.2.2.1) (u1.2.2.2.2) rg).1))), (gs, .inl (cI, 64, .inl ((f_SH_finish 16 ((8 : Int32) * sg) (u3.1) (u3.2) (u1.2.2.2.1) (u1.2.2.2.2) rg).2.1))), (gc, .inl (cI, 8, .inl ((f_SH_finish 16 ((8 : Int32) * sg) (u3.1) (u3.2) (u1.2.2.2.1) (u1.2.2.2.2) rg).2.2.1))), (qg, .inl (cI, 16, .inl ((f_SH_finish 16 ((8 : Int32) * sg) (u3.1) (u3.2) (u1.2.2.2.1) (u1.2.2.2.2) rg).2.2.2)))]) hP hD [5, 6, 7, 8, 10] [0, 1, 2, 3, 4, 9, 11] rfl rfl (by decide) (by decide) hk1 hFc (ht ▸ hB.1) hB.2.2
  have hP := hP.sub (ws' := [(h, .inr (0, [.ref qf, .ref qd, .ref qi, .ref qs, .ref qr, .ref qc, .ref qg, .ref qh])), (qf, .inr (1, [.ref qfw, .int wl])), (qfw, .inl (cI, 70, .inl fw)), (qi, .inr (3, [.ref qiw])), (qiw, .inl (cI, 16, .inl (f_IM_load so iw wl fw))), (qs, .inr (4, [.ref gm, .ref gs, .ref gc, .int (u3.1)])), (gm, .inl (cI, 32, .inl ((f_SH_finish 16 ((8 : Int32) * sg) (u3.1) (u3.2) (u1.2.2.2.1) (u1.2.2.2.2) rg).1))), (gs, .inl (cI, 64, .inl ((f_SH_finish 16 ((8 : Int32) * sg) (u3.1) (u3.2) (u1.2.2.2.1) (u1.2.2.2.2) rg).2.1))), (gc, .inl (cI, 8, .inl ((f_SH_finish 16 ((8 : Int32) * sg) (u3.1) (u3.2) (u1.2.2.2.1) (u1.2.2.2.2) rg).2.2.1))), (qr, .inl (cI, 2, .inl (upd ru (sg).toNatClampNeg so))), (qg, .inl (cI, 16, .inl ((f_SH_finish 16 ((8 : Int32) * sg) (u3.1) (u3.2) (u1.2.2.2.1) (u1.2.2.2.2) rg).2.2.2))), (qh, .inl (cI, 8, .inl (u1.1)))]) [0, 1, 2, 3, 4, 7, 8, 9, 10, 5, 11, 6] rfl
  have hD := hD.sub (ws' := [(h, .inr (0, [.ref qf, .ref qd, .ref qi, .ref qs, .ref qr, .ref qc, .ref qg, .ref qh])), (qf, .inr (1, [.ref qfw, .int wl])), (qfw, .inl (cI, 70, .inl fw)), (qi, .inr (3, [.ref qiw])), (qiw, .inl (cI, 16, .inl (f_IM_load so iw wl fw))), (qs, .inr (4, [.ref gm, .ref gs, .ref gc, .int (u3.1)])), (gm, .inl (cI, 32, .inl ((f_SH_finish 16 ((8 : Int32) * sg) (u3.1) (u3.2) (u1.2.2.2.1) (u1.2.2.2.2) rg).1))), (gs, .inl (cI, 64, .inl ((f_SH_finish 16 ((8 : Int32) * sg) (u3.1) (u3.2) (u1.2.2.2.1) (u1.2.2.2.2) rg).2.1))), (gc, .inl (cI, 8, .inl ((f_SH_finish 16 ((8 : Int32) * sg) (u3.1) (u3.2) (u1.2.2.2.1) (u1.2.2.2.2) rg).2.2.1))), (qr, .inl (cI, 2, .inl (upd ru (sg).toNatClampNeg so))), (qg, .inl (cI, 16, .inl ((f_SH_finish 16 ((8 : Int32) * sg) (u3.1) (u3.2) (u1.2.2.2.1) (u1.2.2.2.2) rg).2.2.2))), (qh, .inl (cI, 8, .inl (u1.1)))]) [0, 1, 2, 3, 4, 7, 8, 9, 10, 5, 11, 6] (by decide) rfl
  generalize H9 = H at hP hS ⊢
  have e0 : (f_BC_start_c3 sg so wl fw iw sl ms sc ch ru rg hh u1 u2 u3) = f_BC_start_c4 sg so wl fw iw sl ms sc ch ru rg hh u1 u2 u3 (f_SH_finish 16 ((8 : Int32) * sg) (u3.1) (u3.2) (u1.2.2.2.1) (u1.2.2.2.2) rg) := by rw [f_BC_start_c3]
  rw [e0]
  generalize hu4 : (f_SH_finish 16 ((8 : Int32) * sg) (u3.1) (u3.2) (u1.2.2.2.1) (u1.2.2.2.2) rg) = u4 at hP hD ⊢
  have hP : va_P (dC, dI) classes [(h, .inr (0, [.ref qf, .ref qd, .ref qi, .ref qs, .ref qr, .ref qc, .ref qg, .ref qh])), (qf, .inr (1, [.ref qfw, .int wl])), (qfw, .inl (cI, 70, .inl fw)), (qi, .inr (3, [.ref qiw])), (qiw, .inl (cI, 16, .inl (f_IM_load so iw wl fw))), (qs, .inr (4, [.ref gm, .ref gs, .ref gc, .int (u3.1)])), (gm, .inl (cI, 32, .inl (u4.1))), (gs, .inl (cI, 64, .inl (u4.2.1))), (gc, .inl (cI, 8, .inl (u4.2.2.1))), (qr, .inl (cI, 2, .inl (upd ru (sg).toNatClampNeg so))), (qg, .inl (cI, 16, .inl (u4.2.2.2))), (qh, .inl (cI, 8, .inl (u1.1)))] H := hP
  have hD : va_D A [(h, .inr (0, [.ref qf, .ref qd, .ref qi, .ref qs, .ref qr, .ref qc, .ref qg, .ref qh])), (qf, .inr (1, [.ref qfw, .int wl])), (qfw, .inl (cI, 70, .inl fw)), (qi, .inr (3, [.ref qiw])), (qiw, .inl (cI, 16, .inl (f_IM_load so iw wl fw))), (qs, .inr (4, [.ref gm, .ref gs, .ref gc, .int (u3.1)])), (gm, .inl (cI, 32, .inl (u4.1))), (gs, .inl (cI, 64, .inl (u4.2.1))), (gc, .inl (cI, 8, .inl (u4.2.2.1))), (qr, .inl (cI, 2, .inl (upd ru (sg).toNatClampNeg so))), (qg, .inl (cI, 16, .inl (u4.2.2.2))), (qh, .inl (cI, 8, .inl (u1.1)))] := hD
  have e0 : (f_BC_start_c4 sg so wl fw iw sl ms sc ch ru rg hh u1 u2 u3 u4) = ((f_IM_load so iw wl fw), (u3.1), (u4.1), (u4.2.1), (u4.2.2.1), (upd ru (sg).toNatClampNeg so), (u4.2.2.2), (u1.1)) := by rw [f_BC_start_c4]
  rw [e0]
  exact W.vret hx hb hr (fun t ht hW => ⟨⟨(), rfl, trivial, by rw [ht]; exact hP, va_K.moved hW.alike hK, hD⟩, hS.F ht⟩) hS.2.2 d_BC_start_87
-- BC_confirmTrials
theorem d_BC_confirmTrials_0 : decode prog_1_method_24_code 0 = .ok (.iload_n 1, 1) := by decide +kernel
theorem d_BC_confirmTrials_1 : decode prog_1_method_24_code 1 = .ok (.istore_n 2, 1) := by decide +kernel
theorem d_BC_confirmTrials_2 : decode prog_1_method_24_code 2 = .ok (.iconst 0, 1) := by decide +kernel
theorem d_BC_confirmTrials_3 : decode prog_1_method_24_code 3 = .ok (.istore_n 3, 1) := by decide +kernel
theorem d_BC_confirmTrials_4 : decode prog_1_method_24_code 4 = .ok (.iload_n 3, 1) := by decide +kernel
theorem d_BC_confirmTrials_5 : decode prog_1_method_24_code 5 = .ok (.iconst 2, 1) := by decide +kernel
theorem d_BC_confirmTrials_6 : decode prog_1_method_24_code 6 = .ok (.if_icmp .ge 49, 3) := by decide +kernel
theorem d_BC_confirmTrials_9 : decode prog_1_method_24_code 9 = .ok (.aload_n 0, 1) := by decide +kernel
theorem d_BC_confirmTrials_10 : decode prog_1_method_24_code 10 = .ok (.getfield 37, 3) := by decide +kernel
theorem d_BC_confirmTrials_13 : decode prog_1_method_24_code 13 = .ok (.iload_n 3, 1) := by decide +kernel
theorem d_BC_confirmTrials_14 : decode prog_1_method_24_code 14 = .ok (.iaload, 1) := by decide +kernel
theorem d_BC_confirmTrials_15 : decode prog_1_method_24_code 15 = .ok (.iload_n 1, 1) := by decide +kernel
theorem d_BC_confirmTrials_16 : decode prog_1_method_24_code 16 = .ok (.iload_n 3, 1) := by decide +kernel
theorem d_BC_confirmTrials_17 : decode prog_1_method_24_code 17 = .ok (.invokestatic 86, 3) := by decide +kernel
theorem d_BC_confirmTrials_20 : decode prog_1_method_24_code 20 = .ok (.if_icmp .ne 7, 3) := by decide +kernel
theorem d_BC_confirmTrials_23 : decode prog_1_method_24_code 23 = .ok (.iconst 1, 1) := by decide +kernel
theorem d_BC_confirmTrials_24 : decode prog_1_method_24_code 24 = .ok (.goto 4, 3) := by decide +kernel
theorem d_BC_confirmTrials_27 : decode prog_1_method_24_code 27 = .ok (.iconst 0, 1) := by decide +kernel
theorem d_BC_confirmTrials_28 : decode prog_1_method_24_code 28 = .ok (.istore 4, 2) := by decide +kernel
theorem d_BC_confirmTrials_30 : decode prog_1_method_24_code 30 = .ok (.iload 4, 2) := by decide +kernel
theorem d_BC_confirmTrials_32 : decode prog_1_method_24_code 32 = .ok (.ifCond .eq 17, 3) := by decide +kernel
theorem d_BC_confirmTrials_35 : decode prog_1_method_24_code 35 = .ok (.iload_n 1, 1) := by decide +kernel
theorem d_BC_confirmTrials_36 : decode prog_1_method_24_code 36 = .ok (.iload_n 3, 1) := by decide +kernel
theorem d_BC_confirmTrials_37 : decode prog_1_method_24_code 37 = .ok (.invokestatic 195, 3) := by decide +kernel
theorem d_BC_confirmTrials_40 : decode prog_1_method_24_code 40 = .ok (.ifCond .eq 9, 3) := by decide +kernel
theorem d_BC_confirmTrials_43 : decode prog_1_method_24_code 43 = .ok (.iload_n 2, 1) := by decide +kernel
theorem d_BC_confirmTrials_44 : decode prog_1_method_24_code 44 = .ok (.iload_n 3, 1) := by decide +kernel
theorem d_BC_confirmTrials_45 : decode prog_1_method_24_code 45 = .ok (.invokestatic 228, 3) := by decide +kernel
theorem d_BC_confirmTrials_48 : decode prog_1_method_24_code 48 = .ok (.istore_n 2, 1) := by decide +kernel
theorem d_BC_confirmTrials_49 : decode prog_1_method_24_code 49 = .ok (.iinc 3 1, 3) := by decide +kernel
theorem d_BC_confirmTrials_52 : decode prog_1_method_24_code 52 = .ok (.goto (-48), 3) := by decide +kernel
theorem d_BC_confirmTrials_55 : decode prog_1_method_24_code 55 = .ok (.iload_n 2, 1) := by decide +kernel
theorem d_BC_confirmTrials_56 : decode prog_1_method_24_code 56 = .ok (.ireturn, 1) := by decide +kernel
def y_BC_confirmTrials : MethodName := ⟨"BootChain", "confirmTrials", "(I)I"⟩
def ws_BC_confirmTrials : List Cond := .code y_BC_confirmTrials prog_1_method_24_code 5 (some .int) :: bc_G
def f_BC_confirmTrials_j28 (rec : Int32 → Int32 → Int32) (st : Int32) (ru : Nat → Int32) (x2 : Int32) (x3 : Int32) (t0 : Int32) : Int32 := if t0 = 0 then rec x2 (x3 + (1 : Int32)) else if (f_SB_onTrial st x3) = 0 then rec x2 (x3 + (1 : Int32)) else rec (f_SB_withOtherActive x2 x3) (x3 + (1 : Int32))
def f_BC_confirmTrials_4 (st : Int32) (ru : Nat → Int32) : Nat → Int32 → Int32 → Int32
  | 0, x2, x3 => 0
  | n + 1, x2, x3 => if (2 : Int32) ≤ x3 then x2 else if (ru (x3).toNatClampNeg) = (f_SB_otherSlot st x3) then f_BC_confirmTrials_j28 (f_BC_confirmTrials_4 st ru n) st ru x2 x3 (1 : Int32) else f_BC_confirmTrials_j28 (f_BC_confirmTrials_4 st ru n) st ru x2 x3 (0 : Int32)
def f_BC_confirmTrials (st : Int32) (ru : Nat → Int32) : Int32 := f_BC_confirmTrials_4 st ru 3 st (0 : Int32)
set_option maxHeartbeats 4000000 in
set_option maxRecDepth 100000 in
theorem c_BC_confirmTrials (l : Launch) (dC : Nat → ClassId) (dI : Nat → Nat → Nat) (cI cJ : ClassId) (h qf qd qi qs qr qc qg qh : Nat) (sz : Nat) (st : Int32) (ru : Nat → Int32) : Met l y_BC_confirmTrials ws_BC_confirmTrials ({ frames := 2, cells := 0, slots := 0, locals := 42 } : Room) (va_Pc [.ref h, .int st] (bc_pre (dC, dI) cI cJ [(h, .inr (0, [.ref qf, .ref qd, .ref qi, .ref qs, .ref qr, .ref qc, .ref qg, .ref qh])), (qr, .inl (cI, 2, .inl ru))] sz)) (va_Qi (fun (r : Int32) (_ : Unit) => r = (f_BC_confirmTrials st ru)) (fun _ => bc_post (dC, dI) cI cJ (va_A [(h, .inr (0, [.ref qf, .ref qd, .ref qi, .ref qs, .ref qr, .ref qc, .ref qg, .ref qh])), (qr, .inl (cI, 2, .inl ru))] sz) [(h, .inr (0, [.ref qf, .ref qd, .ref qi, .ref qs, .ref qr, .ref qc, .ref qg, .ref qh])), (qr, .inl (cI, 2, .inl ru))]) (va_A [(h, .inr (0, [.ref qf, .ref qd, .ref qi, .ref qs, .ref qr, .ref qc, .ref qg, .ref qh])), (qr, .inl (cI, 2, .inl ru))] sz)) 0 0 (va_A [(h, .inr (0, [.ref qf, .ref qd, .ref qi, .ref qs, .ref qr, .ref qc, .ref qg, .ref qh])), (qr, .inl (cI, 2, .inl ru))] sz) := by
  refine Met.ofW (cc := prog_1_method_24_code) (maxL := 5) (ret := (some .int)) (by decide) rfl ?_
  intro p e s m args below meth c s₁ B hml hv
  obtain ⟨rfl, hsz, hP, hK, hD0, hE⟩ := hv
  have hx := B.exec
  have hb := B.bytes
  have hr := B.returns
  have hts : ∀ w ∈ bc_G, w.before ([.ref h, .int st] : List Value).toArray s = true := fun w h => atoms_spec (ws := ws_BC_confirmTrials) B.pre w (List.mem_cons_of_mem _ h)
  have hown : s.vm.findClass "BootChain" = some m.cls := findClass_of_methodNamed B.named
  have hlocks := B.notSynchronized
  subst hsz
  have hD := hD0.self (sz := s.heap.size)
  generalize hAe : va_A [(h, .inr (0, [.ref qf, .ref qd, .ref qi, .ref qs, .ref qr, .ref qc, .ref qg, .ref qh])), (qr, .inl (cI, 2, .inl ru))] s.heap.size = A at hD hE ⊢
  have hA : ∀ q : Nat, s.heap.size ≤ q → A q := fun q h => by rw [← hAe]; exact Or.inr h
  have hS : va_S A s.heap s.heap [] := va_S.rf
  have lp_4 : ∀ (n : Nat) (x2 : Int32) (x3 : Int32) (H : Heap) (locs : List Loc) (ls : Array Slot), 0 ≤ x3 ∧ x3 ≤ 2 → ((2 : Int32).toInt - x3.toInt).toNat < n → lv_has ls 5 [(0, .ref h), (1, .int st), (2, .int x2), (3, .int x3)] → va_P (dC, dI) classes [(h, .inr (0, [.ref qf, .ref qd, .ref qi, .ref qs, .ref qr, .ref qc, .ref qg, .ref qh])), (qr, .inl (cI, 2, .inl ru))] H → va_D A [(h, .inr (0, [.ref qf, .ref qd, .ref qi, .ref qs, .ref qr, .ref qc, .ref qg, .ref qh])), (qr, .inl (cI, 2, .inl ru))] → va_S A s.heap H locs → W p l e (headSpec ws_BC_confirmTrials ({ frames := 2, cells := 0, slots := 0, locals := 42 } : Room)).room s m ([.ref h, .int st] : List Value).toArray below meth c H locs 0 0 (MQ below (va_Qi (fun (r : Int32) (_ : Unit) => r = (f_BC_confirmTrials_4 st ru n x2 x3)) (fun _ => bc_post (dC, dI) cI cJ A [(h, .inr (0, [.ref qf, .ref qd, .ref qi, .ref qs, .ref qr, .ref qc, .ref qg, .ref qh])), (qr, .inl (cI, 2, .inl ru))]) A) ([.ref h, .int st] : List Value).toArray s 0 0 A) (F0 m 4 ls []) := by
    intro n
    induction n with
    | zero => intro x2 x3 H locs ls hI hm; exact absurd hm (Nat.not_lt_zero _)
    | succ n ih =>
      intro x2 x3 H locs ls hI hm hl hP hD hS
      have jn_28 : ∀ (x2 : Int32) (x3 : Int32) (t0 : Int32) (H : Heap) (locs : List Loc) (ls : Array Slot), ((0 ≤ x3 ∧ x3 ≤ 2) ∧ (¬ 2 ≤ x3) ∧ ((2 : Int32).toInt - x3.toInt).toNat < n + 1) → lv_has ls 5 [(0, .ref h), (1, .int st), (2, .int x2), (3, .int x3)] → va_P (dC, dI) classes [(h, .inr (0, [.ref qf, .ref qd, .ref qi, .ref qs, .ref qr, .ref qc, .ref qg, .ref qh])), (qr, .inl (cI, 2, .inl ru))] H → va_D A [(h, .inr (0, [.ref qf, .ref qd, .ref qi, .ref qs, .ref qr, .ref qc, .ref qg, .ref qh])), (qr, .inl (cI, 2, .inl ru))] → va_S A s.heap H locs → W p l e (headSpec ws_BC_confirmTrials ({ frames := 2, cells := 0, slots := 0, locals := 42 } : Room)).room s m ([.ref h, .int st] : List Value).toArray below meth c H locs 0 0 (MQ below (va_Qi (fun (r : Int32) (_ : Unit) => r = (f_BC_confirmTrials_j28 (f_BC_confirmTrials_4 st ru n) st ru x2 x3 t0)) (fun _ => bc_post (dC, dI) cI cJ A [(h, .inr (0, [.ref qf, .ref qd, .ref qi, .ref qs, .ref qr, .ref qc, .ref qg, .ref qh])), (qr, .inl (cI, 2, .inl ru))]) A) ([.ref h, .int st] : List Value).toArray s 0 0 A) (F0 m 28 ls [.int t0]) := by
        intro x2 x3 t0 H locs ls hJ hl hP hD hS
        obtain ⟨hI, hI2, hm⟩ := hJ
        refine lv_istore (lv' := [(4, .int t0), (0, .ref h), (1, .int st), (2, .int x2), (3, .int x3)]) hx hb d_BC_confirmTrials_28 hl (by decide) rfl (fun ls hl => ?_)
        refine lv_iload hx hb d_BC_confirmTrials_30 (lv_at hl 0 rfl) ?_
        refine lv_if_eq (tgt := 49) hx hb d_BC_confirmTrials_32 (by decide) (fun h7 => ?_) (fun h7 => ?_)
        · refine lv_iinc (k := 4) (v := (x3 + (1 : Int32))) (lv' := [(3, .int (x3 + (1 : Int32))), (4, .int t0), (0, .ref h), (1, .int st), (2, .int x2)]) hx hb d_BC_confirmTrials_49 hl rfl rfl (by decide) rfl (fun ls hl => ?_)
          refine lv_goto (tgt := 4) hx hb d_BC_confirmTrials_52 (by decide) ?_
          have e0 : (f_BC_confirmTrials_j28 (f_BC_confirmTrials_4 st ru n) st ru x2 x3 t0) = f_BC_confirmTrials_4 st ru n x2 (x3 + (1 : Int32)) := by rw [f_BC_confirmTrials_j28, if_pos h7]
          rw [e0]
          exact ih x2 (x3 + (1 : Int32)) _ _ ls (lp_up hI.1 (by assumption)).1 (lp_ms hI.1 (by assumption) hm) (lv_sub hl [2, 3, 4, 0] rfl) hP hD hS
        · refine lv_iload_n hx hb d_BC_confirmTrials_35 rfl (lv_at hl 2 rfl) ?_
          refine lv_iload_n hx hb d_BC_confirmTrials_36 rfl (lv_at hl 4 rfl) ?_
          have hPc := hP.sub (ws' := []) [] rfl
          have hDc := hD.sub (ws' := []) [] (by decide) rfl
          have hFc := va_free (wc := []) hD hS hA [] rfl
          refine va_calli (va_runS (As := [.int st, .int x3]) (rest := []) ⟨hx, hb, hml, hown, hts⟩ (c_SB_onTrial l dC dI cI cJ _ st x3) ⟨callB_of 2 hts (bc_good gw_306) rfl rfl rfl (hts _ gw_12) (hts _ gw_304) (by decide +kernel) ⟨Nat.le_of_ble_eq_true rfl, Nat.le_of_ble_eq_true rfl⟩, (hts _ gw_305)⟩ ⟨bc_blind, fun U hU hW => ⟨rfl, bc_give hPc hDc hK hE hS hFc U hU hW⟩⟩ rfl rfl hl.1 rfl (lv_room (Nat.le_of_ble_eq_true rfl)) d_BC_confirmTrials_37 ⟨Nat.le_of_ble_eq_true rfl, Nat.le_of_ble_eq_true rfl⟩) hS (fun q _ h => hFc q h) hFc (fun r u t H9 locs ht hvm hp hB hz1 hk1 hS => ?_)
          subst hp
          obtain ⟨hP, hD⟩ := va_join (wr := [(h, .inr (0, [.ref qf, .ref qd, .ref qi, .ref qs, .ref qr, .ref qc, .ref qg, .ref qh])), (qr, .inl (cI, 2, .inl ru))]) (w1 := []) hP hD [] [0, 1] rfl rfl (by decide) (by decide) hk1 hFc (ht ▸ hB.1) hB.2.2
          have hP := hP.sub (ws' := [(h, .inr (0, [.ref qf, .ref qd, .ref qi, .ref qs, .ref qr, .ref qc, .ref qg, .ref qh])), (qr, .inl (cI, 2, .inl ru))]) [0, 1] rfl
          have hD := hD.sub (ws' := [(h, .inr (0, [.ref qf, .ref qd, .ref qi, .ref qs, .ref qr, .ref qc, .ref qg, .ref qh])), (qr, .inl (cI, 2, .inl ru))]) [0, 1] (by decide) rfl
          generalize H9 = H at hP hS ⊢
          refine lv_if_eq (tgt := 49) hx hb d_BC_confirmTrials_40 (by decide) (fun h8 => ?_) (fun h8 => ?_)
          · refine lv_iinc (k := 4) (v := (x3 + (1 : Int32))) (lv' := [(3, .int (x3 + (1 : Int32))), (4, .int t0), (0, .ref h), (1, .int st), (2, .int x2)]) hx hb d_BC_confirmTrials_49 hl rfl rfl (by decide) rfl (fun ls hl => ?_)
            refine lv_goto (tgt := 4) hx hb d_BC_confirmTrials_52 (by decide) ?_
            have e0 : (f_BC_confirmTrials_j28 (f_BC_confirmTrials_4 st ru n) st ru x2 x3 t0) = f_BC_confirmTrials_4 st ru n x2 (x3 + (1 : Int32)) := by rw [f_BC_confirmTrials_j28, if_neg h7, if_pos h8]
            rw [e0]
            exact ih x2 (x3 + (1 : Int32)) _ _ ls (lp_up hI.1 (by assumption)).1 (lp_ms hI.1 (by assumption) hm) (lv_sub hl [2, 3, 4, 0] rfl) hP hD hS
          · refine lv_iload_n hx hb d_BC_confirmTrials_43 rfl (lv_at hl 3 rfl) ?_
            refine lv_iload_n hx hb d_BC_confirmTrials_44 rfl (lv_at hl 4 rfl) ?_
            have hPc := hP.sub (ws' := []) [] rfl
            have hDc := hD.sub (ws' := []) [] (by decide) rfl
            have hFc := va_free (wc := []) hD hS hA [] rfl
            refine va_calli (va_runS (As := [.int x2, .int x3]) (rest := []) ⟨hx, hb, hml, hown, hts⟩ (c_SB_withOtherActive l dC dI cI cJ _ x2 x3) ⟨callB_of 2 hts (bc_good gw_366) rfl rfl rfl (hts _ gw_12) (hts _ gw_364) (by decide +kernel) ⟨Nat.le_of_ble_eq_true rfl, Nat.le_of_ble_eq_true rfl⟩, (hts _ gw_365)⟩ ⟨bc_blind, fun U hU hW => ⟨rfl, bc_give hPc hDc hK hE hS hFc U hU hW⟩⟩ rfl rfl hl.1 rfl (lv_room (Nat.le_of_ble_eq_true rfl)) d_BC_confirmTrials_45 ⟨Nat.le_of_ble_eq_true rfl, Nat.le_of_ble_eq_true rfl⟩) hS (fun q _ h => hFc q h) hFc (fun r u t H9 locs ht hvm hp hB hz1 hk1 hS => ?_)
            subst hp
            obtain ⟨hP, hD⟩ := va_join (wr := [(h, .inr (0, [.ref qf, .ref qd, .ref qi, .ref qs, .ref qr, .ref qc, .ref qg, .ref qh])), (qr, .inl (cI, 2, .inl ru))]) (w1 := []) hP hD [] [0, 1] rfl rfl (by decide) (by decide) hk1 hFc (ht ▸ hB.1) hB.2.2
            have hP := hP.sub (ws' := [(h, .inr (0, [.ref qf, .ref qd, .ref qi, .ref qs, .ref qr, .ref qc, .ref qg, .ref qh])), (qr, .inl (cI, 2, .inl ru))]) [0, 1] rfl
            have hD := hD.sub (ws' := [(h, .inr (0, [.ref qf, .ref qd, .ref qi, .ref qs, .ref qr, .ref qc, .ref qg, .ref qh])), (qr, .inl (cI, 2, .inl ru))]) [0, 1] (by decide) rfl
            generalize H9 = H at hP hS ⊢
            refine lv_istore_n (lv' := [(2, .int (f_SB_withOtherActive x2 x3)), (4, .int t0), (0, .ref h), (1, .int st), (3, .int x3)]) hx hb d_BC_confirmTrials_48 rfl hl (by decide) rfl (fun ls hl => ?_)
            refine lv_iinc (k := 4) (v := (x3 + (1 : Int32))) (lv' := [(3, .int (x3 + (1 : Int32))), (2, .int (f_SB_withOtherActive x2 x3)), (4, .int t0), (0, .ref h), (1, .int st)]) hx hb d_BC_confirmTrials_49 hl rfl rfl (by decide) rfl (fun ls hl => ?_)
            refine lv_goto (tgt := 4) hx hb d_BC_confirmTrials_52 (by decide) ?_
            have e0 : (f_BC_confirmTrials_j28 (f_BC_confirmTrials_4 st ru n) st ru x2 x3 t0) = f_BC_confirmTrials_4 st ru n (f_SB_withOtherActive x2 x3) (x3 + (1 : Int32)) := by rw [f_BC_confirmTrials_j28, if_neg h7, if_neg h8]
            rw [e0]
            exact ih (f_SB_withOtherActive x2 x3) (x3 + (1 : Int32)) _ _ ls (lp_up hI.1 (by assumption)).1 (lp_ms hI.1 (by assumption) hm) (lv_sub hl [3, 4, 1, 0] rfl) hP hD hS
      refine lv_iload_n hx hb d_BC_confirmTrials_4 rfl (lv_at hl 3 rfl) ?_
      refine lv_iconst (v := 2) hx hb d_BC_confirmTrials_5 (by decide) ?_
      refine lv_icmp_ge (tgt := 55) hx hb d_BC_confirmTrials_6 (by decide) (fun h5 => ?_) (fun h5 => ?_)
      · refine lv_iload_n hx hb d_BC_confirmTrials_55 rfl (lv_at hl 2 rfl) ?_
        have e0 : (f_BC_confirmTrials_4 st ru (n + 1) x2 x3) = x2 := by rw [f_BC_confirmTrials_4, if_pos h5]
        rw [e0]
        exact W.iret (v := x2) hx hb hr (fun t ht hW => ⟨⟨x2, (), rfl, rfl, by rw [ht]; exact hP, va_K.moved hW.alike hK, hD⟩, hS.F ht⟩) hS.2.2 d_BC_confirmTrials_56
      · refine lv_aload_n hx hb d_BC_confirmTrials_9 rfl (lv_at hl 0 rfl) ?_
        refine va_get (D := (dC, dI)) (ci := 0) (v := .ref qr) (C := R_BC) (T := F_BC) (N := 8) hx hb hts in_BC hown hK hP 0 rfl rfl 4 (by decide) (hts _ gw_69) (fun _ h9 => h9) rfl d_BC_confirmTrials_10 ?_
        refine lv_iload_n hx hb d_BC_confirmTrials_13 rfl (lv_at hl 3 rfl) ?_
        refine va_iald hx hb hK hP 1 0 rfl rfl (by exact ix_sub 2 2 hI.1 (by assumption) rfl (by decide) (by decide)) d_BC_confirmTrials_14 ?_
        refine lv_iload_n hx hb d_BC_confirmTrials_15 rfl (lv_at hl 1 rfl) ?_
        refine lv_iload_n hx hb d_BC_confirmTrials_16 rfl (lv_at hl 3 rfl) ?_
        have hPc := hP.sub (ws' := []) [] rfl
        have hDc := hD.sub (ws' := []) [] (by decide) rfl
        have hFc := va_free (wc := []) hD hS hA [] rfl
        refine va_calli (va_runS (As := [.int st, .int x3]) (rest := [.int (ru (x3).toNatClampNeg)]) ⟨hx, hb, hml, hown, hts⟩ (c_SB_otherSlot l dC dI cI cJ _ st x3) ⟨callB_of 2 hts (bc_good gw_259) rfl rfl rfl (hts _ gw_12) (hts _ gw_257) (by decide +kernel) ⟨Nat.le_of_ble_eq_true rfl, Nat.le_of_ble_eq_true rfl⟩, (hts _ gw_258)⟩ ⟨bc_blind, fun U hU hW => ⟨rfl, bc_give hPc hDc hK hE hS hFc U hU hW⟩⟩ rfl rfl hl.1 rfl (lv_room (Nat.le_of_ble_eq_true rfl)) d_BC_confirmTrials_17 ⟨Nat.le_of_ble_eq_true rfl, Nat.le_of_ble_eq_true rfl⟩) hS (fun q _ h => hFc q h) hFc (fun r u t H9 locs ht hvm hp hB hz1 hk1 hS => ?_)
        subst hp
        obtain ⟨hP, hD⟩ := va_join (wr := [(h, .inr (0, [.ref qf, .ref qd, .ref qi, .ref qs, .ref qr, .ref qc, .ref qg, .ref qh])), (qr, .inl (cI, 2, .inl ru))]) (w1 := []) hP hD [] [0, 1] rfl rfl (by decide) (by decide) hk1 hFc (ht ▸ hB.1) hB.2.2
        have hP := hP.sub (ws' := [(h, .inr (0, [.ref qf, .ref qd, .ref qi, .ref qs, .ref qr, .ref qc, .ref qg, .ref qh])), (qr, .inl (cI, 2, .inl ru))]) [0, 1] rfl
        have hD := hD.sub (ws' := [(h, .inr (0, [.ref qf, .ref qd, .ref qi, .ref qs, .ref qr, .ref qc, .ref qg, .ref qh])), (qr, .inl (cI, 2, .inl ru))]) [0, 1] (by decide) rfl
        generalize H9 = H at hP hS ⊢
        refine lv_icmp_ne (tgt := 27) hx hb d_BC_confirmTrials_20 (by decide) (fun h6 => ?_) (fun h6 => ?_)
        · refine lv_iconst (v := 0) hx hb d_BC_confirmTrials_27 (by decide) ?_
          have e0 : (f_BC_confirmTrials_4 st ru (n + 1) x2 x3) = f_BC_confirmTrials_j28 (f_BC_confirmTrials_4 st ru n) st ru x2 x3 (0 : Int32) := by rw [f_BC_confirmTrials_4, if_neg h5, if_neg h6]
          rw [e0]
          exact jn_28 x2 x3 (0 : Int32) _ _ ls ⟨hI, by assumption, hm⟩ (lv_sub hl [0, 1, 2, 3] rfl) hP hD hS
        · refine lv_iconst (v := 1) hx hb d_BC_confirmTrials_23 (by decide) ?_
          refine lv_goto (tgt := 28) hx hb d_BC_confirmTrials_24 (by decide) ?_
          have e0 : (f_BC_confirmTrials_4 st ru (n + 1) x2 x3) = f_BC_confirmTrials_j28 (f_BC_confirmTrials_4 st ru n) st ru x2 x3 (1 : Int32) := by rw [f_BC_confirmTrials_4, if_neg h5, if_pos h6]
          rw [e0]
          exact jn_28 x2 x3 (1 : Int32) _ _ ls ⟨hI, by assumption, hm⟩ (lv_sub hl [0, 1, 2, 3] rfl) hP hD hS
  have hl := lv_entry ([.ref h, .int st]) (n := 5) (Nat.le_of_ble_eq_true rfl)
  rw [lg_entry_eq]
  generalize (lg_sl ([.ref h, .int st]) ++ List.replicate (5 - (lg_sl ([.ref h, .int st])).length) Slot.unset).toArray = ls at hl ⊢
  have hl : lv_has ls 5 [(0, .ref h), (1, .int st)] := hl
  refine lv_iload_n hx hb d_BC_confirmTrials_0 rfl (lv_at hl 1 rfl) ?_
  refine lv_istore_n (lv' := [(2, .int st), (0, .ref h), (1, .int st)]) hx hb d_BC_confirmTrials_1 rfl hl (by decide) rfl (fun ls hl => ?_)
  refine lv_iconst (v := 0) hx hb d_BC_confirmTrials_2 (by decide) ?_
  refine lv_istore_n (lv' := [(3, .int (0 : Int32)), (2, .int st), (0, .ref h), (1, .int st)]) hx hb d_BC_confirmTrials_3 rfl hl (by decide) rfl (fun ls hl => ?_)
  have e0 : (f_BC_confirmTrials st ru) = f_BC_confirmTrials_4 st ru 3 st (0 : Int32) := by rw [f_BC_confirmTrials]
  rw [e0]
  exact lp_4 3 st (0 : Int32) _ _ ls ⟨by decide, by decide⟩ (by decide) (lv_sub hl [2, 3, 1, 0] rfl) hP hD hS
-- BC_raiseCounters
theorem d_BC_raiseCounters_0 : decode prog_1_method_25_code 0 = .ok (.iconst 0, 1) := by decide +kernel
theorem d_BC_raiseCounters_1 : decode prog_1_method_25_code 1 = .ok (.istore_n 1, 1) := by decide +kernel
theorem d_BC_raiseCounters_2 : decode prog_1_method_25_code 2 = .ok (.iload_n 1, 1) := by decide +kernel
theorem d_BC_raiseCounters_3 : decode prog_1_method_25_code 3 = .ok (.iconst 2, 1) := by decide +kernel
theorem d_BC_raiseCounters_4 : decode prog_1_method_25_code 4 = .ok (.if_icmp .ge 44, 3) := by decide +kernel
theorem d_BC_raiseCounters_7 : decode prog_1_method_25_code 7 = .ok (.aload_n 0, 1) := by decide +kernel
theorem d_BC_raiseCounters_8 : decode prog_1_method_25_code 8 = .ok (.getfield 10, 3) := by decide +kernel
theorem d_BC_raiseCounters_11 : decode prog_1_method_25_code 11 = .ok (.aload_n 0, 1) := by decide +kernel
theorem d_BC_raiseCounters_12 : decode prog_1_method_25_code 12 = .ok (.getfield 37, 3) := by decide +kernel
theorem d_BC_raiseCounters_15 : decode prog_1_method_25_code 15 = .ok (.iload_n 1, 1) := by decide +kernel
theorem d_BC_raiseCounters_16 : decode prog_1_method_25_code 16 = .ok (.iaload, 1) := by decide +kernel
theorem d_BC_raiseCounters_17 : decode prog_1_method_25_code 17 = .ok (.iconst 0, 1) := by decide +kernel
theorem d_BC_raiseCounters_18 : decode prog_1_method_25_code 18 = .ok (.invokevirtual 151, 3) := by decide +kernel
theorem d_BC_raiseCounters_21 : decode prog_1_method_25_code 21 = .ok (.invokestatic 231, 3) := by decide +kernel
theorem d_BC_raiseCounters_24 : decode prog_1_method_25_code 24 = .ok (.istore_n 2, 1) := by decide +kernel
theorem d_BC_raiseCounters_25 : decode prog_1_method_25_code 25 = .ok (.iload_n 2, 1) := by decide +kernel
theorem d_BC_raiseCounters_26 : decode prog_1_method_25_code 26 = .ok (.aload_n 0, 1) := by decide +kernel
theorem d_BC_raiseCounters_27 : decode prog_1_method_25_code 27 = .ok (.getfield 41, 3) := by decide +kernel
theorem d_BC_raiseCounters_30 : decode prog_1_method_25_code 30 = .ok (.iload_n 1, 1) := by decide +kernel
theorem d_BC_raiseCounters_31 : decode prog_1_method_25_code 31 = .ok (.iaload, 1) := by decide +kernel
theorem d_BC_raiseCounters_32 : decode prog_1_method_25_code 32 = .ok (.if_icmp .le 10, 3) := by decide +kernel
theorem d_BC_raiseCounters_35 : decode prog_1_method_25_code 35 = .ok (.aload_n 0, 1) := by decide +kernel
theorem d_BC_raiseCounters_36 : decode prog_1_method_25_code 36 = .ok (.getfield 41, 3) := by decide +kernel
theorem d_BC_raiseCounters_39 : decode prog_1_method_25_code 39 = .ok (.iload_n 1, 1) := by decide +kernel
theorem d_BC_raiseCounters_40 : decode prog_1_method_25_code 40 = .ok (.iload_n 2, 1) := by decide +kernel
theorem d_BC_raiseCounters_41 : decode prog_1_method_25_code 41 = .ok (.iastore, 1) := by decide +kernel
theorem d_BC_raiseCounters_42 : decode prog_1_method_25_code 42 = .ok (.iinc 1 1, 3) := by decide +kernel
theorem d_BC_raiseCounters_45 : decode prog_1_method_25_code 45 = .ok (.goto (-43), 3) := by decide +kernel
theorem d_BC_raiseCounters_48 : decode prog_1_method_25_code 48 = .ok (.return_, 1) := by decide +kernel
def y_BC_raiseCounters : MethodName := ⟨"BootChain", "raiseCounters", "()V"⟩
def ws_BC_raiseCounters : List Cond := .code y_BC_raiseCounters prog_1_method_25_code 3 none :: bc_G
def f_BC_raiseCounters_2 (wl : Int32) (fw : Nat → Int32) (ru : Nat → Int32) (cn : Nat → Int32) : Nat → Int32 → (Nat → Int32) → (Nat → Int32)
  | 0, x1, y4 => y4
  | n + 1, x1, y4 => if (2 : Int32) ≤ x1 then y4 else if (f_IM_versionToldBy (f_FL_read (ru (x1).toNatClampNeg) (0 : Int32) wl fw)) ≤ (y4 (x1).toNatClampNeg) then f_BC_raiseCounters_2 wl fw ru cn n (x1 + (1 : Int32)) y4 else f_BC_raiseCounters_2 wl fw ru cn n (x1 + (1 : Int32)) (upd y4 (x1).toNatClampNeg (f_IM_versionToldBy (f_FL_read (ru (x1).toNatClampNeg) (0 : Int32) wl fw)))
def f_BC_raiseCounters (wl : Int32) (fw : Nat → Int32) (ru : Nat → Int32) (cn : Nat → Int32) : (Nat → Int32) := f_BC_raiseCounters_2 wl fw ru cn 3 (0 : Int32) cn
set_option maxHeartbeats 4000000 in
set_option maxRecDepth 100000 in
theorem c_BC_raiseCounters (l : Launch) (dC : Nat → ClassId) (dI : Nat → Nat → Nat) (cI cJ : ClassId) (h qf qd qi qs qr qc qg qh qfw : Nat) (sz : Nat) (wl : Int32) (fw : Nat → Int32) (ru : Nat → Int32) (cn : Nat → Int32) (hru : (0 ≤ ru 0 ∧ ru 0 < 4) ∧ (0 ≤ ru 1 ∧ ru 1 < 4)) : Met l y_BC_raiseCounters ws_BC_raiseCounters ({ frames := 2, cells := 0, slots := 0, locals := 43 } : Room) (va_Pc [.ref h] (bc_pre (dC, dI) cI cJ [(h, .inr (0, [.ref qf, .ref qd, .ref qi, .ref qs, .ref qr, .ref qc, .ref qg, .ref qh])), (qf, .inr (1, [.ref qfw, .int wl])), (qfw, .inl (cI, 70, .inl fw)), (qr, .inl (cI, 2, .inl ru)), (qc, .inl (cI, 2, .inl cn))] sz)) (va_Qv (fun (_ : Unit) => True) (fun _ => bc_post (dC, dI) cI cJ (va_A [(h, .inr (0, [.ref qf, .ref qd, .ref qi, .ref qs, .ref qr, .ref qc, .ref qg, .ref qh])), (qf, .inr (1, [.ref qfw, .int wl])), (qfw, .inl (cI, 70, .inl fw)), (qr, .inl (cI, 2, .inl ru)), (qc, .inl (cI, 2, .inl cn))] sz) [(h, .inr (0, [.ref qf, .ref qd, .ref qi, .ref qs, .ref qr, .ref qc, .ref qg, .ref qh])), (qf, .inr (1, [.ref qfw, .int wl])), (qfw, .inl (cI, 70, .inl fw)), (qr, .inl (cI, 2, .inl ru)), (qc, .inl (cI, 2, .inl (f_BC_raiseCounters wl fw ru cn)))]) (va_A [(h, .inr (0, [.ref qf, .ref qd, .ref qi, .ref qs, .ref qr, .ref qc, .ref qg, .ref qh])), (qf, .inr (1, [.ref qfw, .int wl])), (qfw, .inl (cI, 70, .inl fw)), (qr, .inl (cI, 2, .inl ru)), (qc, .inl (cI, 2, .inl cn))] sz)) 0 0 (va_A [(h, .inr (0, [.ref qf, .ref qd, .ref qi, .ref qs, .ref qr, .ref qc, .ref qg, .ref qh])), (qf, .inr (1, [.ref qfw, .int wl])), (qfw, .inl (cI, 70, .inl fw)), (qr, .inl (cI, 2, .inl ru)), (qc, .inl (cI, 2, .inl cn))] sz) := by
  refine Met.ofW (cc := prog_1_method_25_code) (maxL := 3) (ret := none) (by decide) rfl ?_
  intro p e s m args below meth c s₁ B hml hv
  obtain ⟨rfl, hsz, hP, hK, hD0, hE⟩ := hv
  have hx := B.exec
  have hb := B.bytes
  have hr := B.returns
  have hts : ∀ w ∈ bc_G, w.before ([.ref h] : List Value).toArray s = true := fun w h => atoms_spec (ws := ws_BC_raiseCounters) B.pre w (List.mem_cons_of_mem _ h)
  have hown : s.vm.findClass "BootChain" = some m.cls := findClass_of_methodNamed B.named
  have hlocks := B.notSynchronized
  subst hsz
  have hD := hD0.self (sz := s.heap.size)
  generalize hAe : va_A [(h, .inr (0, [.ref qf, .ref qd, .ref qi, .ref qs, .ref qr, .ref qc, .ref qg, .ref qh])), (qf, .inr (1, [.ref qfw, .int wl])), (qfw, .inl (cI, 70, .inl fw)), (qr, .inl (cI, 2, .inl ru)), (qc, .inl (cI, 2, .inl cn))] s.heap.size = A at hD hE ⊢
  have hA : ∀ q : Nat, s.heap.size ≤ q → A q := fun q h => by rw [← hAe]; exact Or.inr h
  have hS : va_S A s.heap s.heap [] := va_S.rf
  have lp_2 : ∀ (n : Nat) (x1 : Int32) (y4 : Nat → Int32) (H : Heap) (locs : List Loc) (ls : Array Slot), 0 ≤ x1 ∧ x1 ≤ 2 → ((2 : Int32).toInt - x1.toInt).toNat < n → lv_has ls 3 [(0, .ref h), (1, .int x1)] → va_P (dC, dI) classes [(h, .inr (0, [.ref qf, .ref qd, .ref qi, .ref qs, .ref qr, .ref qc, .ref qg, .ref qh])), (qf, .inr (1, [.ref qfw, .int wl])), (qfw, .inl (cI, 70, .inl fw)), (qr, .inl (cI, 2, .inl ru)), (qc, .inl (cI, 2, .inl y4))] H → va_D A [(h, .inr (0, [.ref qf, .ref qd, .ref qi, .ref qs, .ref qr, .ref qc, .ref qg, .ref qh])), (qf, .inr (1, [.ref qfw, .int wl])), (qfw, .inl (cI, 70, .inl fw)), (qr, .inl (cI, 2, .inl ru)), (qc, .inl (cI, 2, .inl y4))] → va_S A s.heap H locs → W p l e (headSpec ws_BC_raiseCounters ({ frames := 2, cells := 0, slots := 0, locals := 43 } : Room)).room s m ([.ref h] : List Value).toArray below meth c H locs 0 0 (MQ below (va_Qv (fun (_ : Unit) => True) (fun _ => bc_post (dC, dI) cI cJ A [(h, .inr (0, [.ref qf, .ref qd, .ref qi, .ref qs, .ref qr, .ref qc, .ref qg, .ref qh])), (qf, .inr (1, [.ref qfw, .int wl])), (qfw, .inl (cI, 70, .inl fw)), (qr, .inl (cI, 2, .inl ru)), (qc, .inl (cI, 2, .inl (f_BC_raiseCounters_2 wl fw ru cn n x1 y4)))]) A) ([.ref h] : List Value).toArray s 0 0 A) (F0 m 2 ls []) := by
    intro n
    induction n with
    | zero => intro x1 y4 H locs ls hI hm; exact absurd hm (Nat.not_lt_zero _)
    | succ n ih =>
      intro x1 y4 H locs ls hI hm hl hP hD hS
      refine lv_iload_n hx hb d_BC_raiseCounters_2 rfl (lv_at hl 1 rfl) ?_
      refine lv_iconst (v := 2) hx hb d_BC_raiseCounters_3 (by decide) ?_
      refine lv_icmp_ge (tgt := 48) hx hb d_BC_raiseCounters_4 (by decide) (fun h3 => ?_) (fun h3 => ?_)
      · have e0 : (f_BC_raiseCounters_2 wl fw ru cn (n + 1) x1 y4) = y4 := by rw [f_BC_raiseCounters_2, if_pos h3]
        rw [e0]
        exact W.vret hx hb hr (fun t ht hW => ⟨⟨(), rfl, trivial, by rw [ht]; exact hP, va_K.moved hW.alike hK, hD⟩, hS.F ht⟩) hS.2.2 d_BC_raiseCounters_48
      · refine lv_aload_n hx hb d_BC_raiseCounters_7 rfl (lv_at hl 0 rfl) ?_
        refine va_get (D := (dC, dI)) (ci := 0) (v := .ref qf) (C := R_BC) (T := F_BC) (N := 8) hx hb hts in_BC hown hK hP 0 rfl rfl 0 (by decide) (hts _ gw_65) (fun _ h9 => h9) rfl d_BC_raiseCounters_8 ?_
        refine lv_aload_n hx hb d_BC_raiseCounters_11 rfl (lv_at hl 0 rfl) ?_
        refine va_get (D := (dC, dI)) (ci := 0) (v := .ref qr) (C := R_BC) (T := F_BC) (N := 8) hx hb hts in_BC hown hK hP 0 rfl rfl 4 (by decide) (hts _ gw_69) (fun _ h9 => h9) rfl d_BC_raiseCounters_12 ?_
        refine lv_iload_n hx hb d_BC_raiseCounters_15 rfl (lv_at hl 1 rfl) ?_
        refine va_iald hx hb hK hP 3 0 rfl rfl (by exact ix_sub 2 2 hI.1 (by assumption) rfl (by decide) (by decide)) d_BC_raiseCounters_16 ?_
        refine lv_iconst (v := 0) hx hb d_BC_raiseCounters_17 (by decide) ?_
        have hPc := hP.sub (ws' := [(qf, .inr (1, [.ref qfw, .int wl])), (qfw, .inl (cI, 70, .inl fw))]) [1, 2] rfl
        have hDc := hD.sub (ws' := [(qf, .inr (1, [.ref qfw, .int wl])), (qfw, .inl (cI, 70, .inl fw))]) [1, 2] (by decide) rfl
        have hFc := va_free (wc := [(qf, .inr (1, [.ref qfw, .int wl])), (qfw, .inl (cI, 70, .inl fw))]) hD hS hA [1, 2] rfl
        refine va_calli (va_runV (As := [.int (ru (x1).toNatClampNeg), .int (0 : Int32)]) (rest := []) ⟨hx, hb, hml, hown, hts⟩ (c_FL_read l dC dI cI cJ qf qfw _ (ru (x1).toNatClampNeg) (0 : Int32) wl fw (ix_run hru hI.1 (by assumption))) ⟨callB_of 2 hts (bc_good gw_99) rfl rfl rfl (hts _ gw_2) (hts _ gw_384) (by decide +kernel) ⟨Nat.le_of_ble_eq_true rfl, Nat.le_of_ble_eq_true rfl⟩, (hts _ gw_97), (hts _ gw_98)⟩ ⟨bc_blind, va_recv (q0 := 1) hK hP (q := (R_FL, F_FL, 2)) rfl rfl, fun U hU hW => ⟨rfl, bc_give hPc hDc hK hE hS hFc U hU hW⟩⟩ rfl rfl hl.1 rfl (lv_room (Nat.le_of_ble_eq_true rfl)) d_BC_raiseCounters_18 ⟨Nat.le_of_ble_eq_true rfl, Nat.le_of_ble_eq_true rfl⟩) hS (fun q _ h => hFc q h) hFc (fun r u t H9 locs ht hvm hp hB hz1 hk1 hS => ?_)
        subst hp
        obtain ⟨hP, hD⟩ := va_join (wr := [(h, .inr (0, [.ref qf, .ref qd, .ref qi, .ref qs, .ref qr, .ref qc, .ref qg, .ref qh])), (qr, .inl (cI, 2, .inl ru)), (qc, .inl (cI, 2, .inl y4))]) (w1 := [(qf, .inr (1, [.ref qfw, .int wl])), (qfw, .inl (cI, 70, .inl fw))]) hP hD [1, 2] [0, 3, 4] rfl rfl (by decide) (by decide) hk1 hFc (ht ▸ hB.1) hB.2.2
        have hP := hP.sub (ws' := [(h, .inr (0, [.ref qf, .ref qd, .ref qi, .ref qs, .ref qr, .ref qc, .ref qg, .ref qh])), (qf, .inr (1, [.ref qfw, .int wl])), (qfw, .inl (cI, 70, .inl fw)), (qr, .inl (cI, 2, .inl ru)), (qc, .inl (cI, 2, .inl y4))]) [0, 3, 4, 1, 2] rfl
        have hD := hD.sub (ws' := [(h, .inr (0, [.ref qf, .ref qd, .ref qi, .ref qs, .ref qr, .ref qc, .ref qg, .ref qh])), (qf, .inr (1, [.ref qfw, .int wl])), (qfw, .inl (cI, 70, .inl fw)), (qr, .inl (cI, 2, .inl ru)), (qc, .inl (cI, 2, .inl y4))]) [0, 3, 4, 1, 2] (by decide) rfl
        generalize H9 = H at hP hS ⊢
        have hPc := hP.sub (ws' := []) [] rfl
        have hDc := hD.sub (ws' := []) [] (by decide) rfl
        have hFc := va_free (wc := []) hD hS hA [] rfl
        refine va_calli (va_runS (As := [.int (f_FL_read (ru (x1).toNatClampNeg) (0 : Int32) wl fw)]) (rest := []) ⟨hx, hb, hml, hown, hts⟩ (c_IM_versionToldBy l dC dI cI cJ _ (f_FL_read (ru (x1).toNatClampNeg) (0 : Int32) wl fw)) ⟨callB_of 1 hts (bc_good gw_331) rfl rfl rfl (hts _ gw_4) (hts _ gw_385) (by decide +kernel) ⟨Nat.le_of_ble_eq_true rfl, Nat.le_of_ble_eq_true rfl⟩, (hts _ gw_330)⟩ ⟨bc_blind, fun U hU hW => ⟨rfl, bc_give hPc hDc hK hE hS hFc U hU hW⟩⟩ rfl rfl hl.1 rfl (lv_room (Nat.le_of_ble_eq_true rfl)) d_BC_raiseCounters_21 ⟨Nat.le_of_ble_eq_true rfl, Nat.le_of_ble_eq_true rfl⟩) hS (fun q _ h => hFc q h) hFc (fun r u t H9 locs ht hvm hp hB hz1 hk1 hS => ?_)
        subst hp
        obtain ⟨hP, hD⟩ := va_join (wr := [(h, .inr (0, [.ref qf, .ref qd, .ref qi, .ref qs, .ref qr, .ref qc, .ref qg, .ref qh])), (qf, .inr (1, [.ref qfw, .int wl])), (qfw, .inl (cI, 70, .inl fw)), (qr, .inl (cI, 2, .inl ru)), (qc, .inl (cI, 2, .inl y4))]) (w1 := []) hP hD [] [0, 1, 2, 3, 4] rfl rfl (by decide) (by decide) hk1 hFc (ht ▸ hB.1) hB.2.2
        have hP := hP.sub (ws' := [(h, .inr (0, [.ref qf, .ref qd, .ref qi, .ref qs, .ref qr, .ref qc, .ref qg, .ref qh])), (qf, .inr (1, [.ref qfw, .int wl])), (qfw, .inl (cI, 70, .inl fw)), (qr, .inl (cI, 2, .inl ru)), (qc, .inl (cI, 2, .inl y4))]) [0, 1, 2, 3, 4] rfl
        have hD := hD.sub (ws' := [(h, .inr (0, [.ref qf, .ref qd, .ref qi, .ref qs, .ref qr, .ref qc, .ref qg, .ref qh])), (qf, .inr (1, [.ref qfw, .int wl])), (qfw, .inl (cI, 70, .inl fw)), (qr, .inl (cI, 2, .inl ru)), (qc, .inl (cI, 2, .inl y4))]) [0, 1, 2, 3, 4] (by decide) rfl
        generalize H9 = H at hP hS ⊢
        refine lv_istore_n (lv' := [(2, .int (f_IM_versionToldBy (f_FL_read (ru (x1).toNatClampNeg) (0 : Int32) wl fw))), (0, .ref h), (1, .int x1)]) hx hb d_BC_raiseCounters_24 rfl hl (by decide) rfl (fun ls hl => ?_)
        refine lv_iload_n hx hb d_BC_raiseCounters_25 rfl (lv_at hl 0 rfl) ?_
        refine lv_aload_n hx hb d_BC_raiseCounters_26 rfl (lv_at hl 1 rfl) ?_
        refine va_get (D := (dC, dI)) (ci := 0) (v := .ref qc) (C := R_BC) (T := F_BC) (N := 8) hx hb hts in_BC hown hK hP 0 rfl rfl 5 (by decide) (hts _ gw_70) (fun _ h9 => h9) rfl d_BC_raiseCounters_27 ?_
        refine lv_iload_n hx hb d_BC_raiseCounters_30 rfl (lv_at hl 2 rfl) ?_
        refine va_iald hx hb hK hP 4 0 rfl rfl (by exact ix_sub 2 2 hI.1 (by assumption) rfl (by decide) (by decide)) d_BC_raiseCounters_31 ?_
        refine lv_icmp_le (tgt := 42) hx hb d_BC_raiseCounters_32 (by decide) (fun h4 => ?_) (fun h4 => ?_)
        · refine lv_iinc (k := 2) (v := (x1 + (1 : Int32))) (lv' := [(1, .int (x1 + (1 : Int32))), (2, .int (f_IM_versionToldBy (f_FL_read (ru (x1).toNatClampNeg) (0 : Int32) wl fw))), (0, .ref h)]) hx hb d_BC_raiseCounters_42 hl rfl rfl (by decide) rfl (fun ls hl => ?_)
          refine lv_goto (tgt := 2) hx hb d_BC_raiseCounters_45 (by decide) ?_
          have e0 : (f_BC_raiseCounters_2 wl fw ru cn (n + 1) x1 y4) = f_BC_raiseCounters_2 wl fw ru cn n (x1 + (1 : Int32)) y4 := by rw [f_BC_raiseCounters_2, if_neg h3, if_pos h4]
          rw [e0]
          exact ih (x1 + (1 : Int32)) y4 _ _ ls (lp_up hI.1 (by assumption)).1 (lp_ms hI.1 (by assumption) hm) (lv_sub hl [2, 0] rfl) hP hD hS
        · refine lv_aload_n hx hb d_BC_raiseCounters_35 rfl (lv_at hl 1 rfl) ?_
          refine va_get (D := (dC, dI)) (ci := 0) (v := .ref qc) (C := R_BC) (T := F_BC) (N := 8) hx hb hts in_BC hown hK hP 0 rfl rfl 5 (by decide) (hts _ gw_70) (fun _ h9 => h9) rfl d_BC_raiseCounters_36 ?_
          refine lv_iload_n hx hb d_BC_raiseCounters_39 rfl (lv_at hl 2 rfl) ?_
          refine lv_iload_n hx hb d_BC_raiseCounters_40 rfl (lv_at hl 0 rfl) ?_
          refine va_iast hx hb hK hP hD hS 4 0 rfl rfl (by exact ix_sub 2 2 hI.1 (by assumption) rfl (by decide) (by decide)) d_BC_raiseCounters_41 (fun H locs hP hD hS => ?_)
          have hP : va_P (dC, dI) classes [(h, .inr (0, [.ref qf, .ref qd, .ref qi, .ref qs, .ref qr, .ref qc, .ref qg, .ref qh])), (qf, .inr (1, [.ref qfw, .int wl])), (qfw, .inl (cI, 70, .inl fw)), (qr, .inl (cI, 2, .inl ru)), (qc, .inl (cI, 2, .inl (upd y4 (x1).toNatClampNeg (f_IM_versionToldBy (f_FL_read (ru (x1).toNatClampNeg) (0 : Int32) wl fw)))))] H := hP
          have hD : va_D A [(h, .inr (0, [.ref qf, .ref qd, .ref qi, .ref qs, .ref qr, .ref qc, .ref qg, .ref qh])), (qf, .inr (1, [.ref qfw, .int wl])), (qfw, .inl (cI, 70, .inl fw)), (qr, .inl (cI, 2, .inl ru)), (qc, .inl (cI, 2, .inl (upd y4 (x1).toNatClampNeg (f_IM_versionToldBy (f_FL_read (ru (x1).toNatClampNeg) (0 : Int32) wl fw)))))] := hD
          refine lv_iinc (k := 2) (v := (x1 + (1 : Int32))) (lv' := [(1, .int (x1 + (1 : Int32))), (2, .int (f_IM_versionToldBy (f_FL_read (ru (x1).toNatClampNeg) (0 : Int32) wl fw))), (0, .ref h)]) hx hb d_BC_raiseCounters_42 hl rfl rfl (by decide) rfl (fun ls hl => ?_)
          refine lv_goto (tgt := 2) hx hb d_BC_raiseCounters_45 (by decide) ?_
          have e0 : (f_BC_raiseCounters_2 wl fw ru cn (n + 1) x1 y4) = f_BC_raiseCounters_2 wl fw ru cn n (x1 + (1 : Int32)) (upd y4 (x1).toNatClampNeg (f_IM_versionToldBy (f_FL_read (ru (x1).toNatClampNeg) (0 : Int32) wl fw))) := by rw [f_BC_raiseCounters_2, if_neg h3, if_neg h4]
          rw [e0]
          exact ih (x1 + (1 : Int32)) (upd y4 (x1).toNatClampNeg (f_IM_versionToldBy (f_FL_read (ru (x1).toNatClampNeg) (0 : Int32) wl fw))) _ _ ls (lp_up hI.1 (by assumption)).1 (lp_ms hI.1 (by assumption) hm) (lv_sub hl [2, 0] rfl) hP hD hS
  have hl := lv_entry ([.ref h]) (n := 3) (Nat.le_of_ble_eq_true rfl)
  rw [lg_entry_eq]
  generalize (lg_sl ([.ref h]) ++ List.replicate (3 - (lg_sl ([.ref h])).length) Slot.unset).toArray = ls at hl ⊢
  have hl : lv_has ls 3 [(0, .ref h)] := hl
  refine lv_iconst (v := 0) hx hb d_BC_raiseCounters_0 (by decide) ?_
  refine lv_istore_n (lv' := [(1, .int (0 : Int32)), (0, .ref h)]) hx hb d_BC_raiseCounters_1 rfl hl (by decide) rfl (fun ls hl => ?_)
  have e0 : (f_BC_raiseCounters wl fw ru cn) = f_BC_raiseCounters_2 wl fw ru cn 3 (0 : Int32) cn := by rw [f_BC_raiseCounters]
  rw [e0]
  exact lp_2 3 (0 : Int32) cn _ _ ls ⟨by decide, by decide⟩ (by decide) (lv_sub hl [1, 0] rfl) hP hD hS
