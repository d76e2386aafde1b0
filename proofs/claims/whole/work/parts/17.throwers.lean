theorem st_ok {sg : Int32} (h : ¬ f_BC_isStage sg = 0) : sg = 0 ∨ sg = 1 := by
  unfold f_BC_isStage at h
  by_cases h0 : sg < 0
  · rw [if_pos h0] at h; exact absurd rfl h
  · rw [if_neg h0] at h
    by_cases h1 : (2 : Int32) ≤ sg
    · rw [if_pos h1] at h; exact absurd rfl h
    · exact st_loop (Int32.not_lt.mp h0) h1
def sl_res (x : Int32) : Prop := x = -1 ∨ x = -2 ∨ (0 ≤ x ∧ x < 4)
theorem p_onTrial {sg wl sl : Int32} {fw iw ms sc ch cn hh : Nat → Int32} (h : sg = 0 ∨ sg = 1) : sl_res (f_BC_slotOnTrial sg wl fw iw sl ms sc ch cn hh).1 := by
  unfold f_BC_slotOnTrial
  split
  · exact Or.inl rfl
  · split
    · unfold f_BC_slotOnTrial_j69 f_BC_slotOnTrial_c3
      split
      · exact Or.inr (Or.inl rfl)
      · exact Or.inl rfl
    · unfold f_BC_slotOnTrial_c1
      split
      · exact Or.inr (Or.inl rfl)
      · unfold f_BC_slotOnTrial_c2
        split
        · unfold f_BC_slotOnTrial_j69 f_BC_slotOnTrial_c3
          split
          · exact Or.inr (Or.inl rfl)
          · exact Or.inl rfl
        · exact Or.inr (Or.inr (sl_other h))
theorem p_without {sg wl sl : Int32} {fw iw ms sc ch cn hh : Nat → Int32} (h : sg = 0 ∨ sg = 1) : sl_res (f_BC_slotWithoutTrial sg wl fw iw sl ms sc ch cn hh).1 := by
  unfold f_BC_slotWithoutTrial f_BC_slotWithoutTrial_c1
  split
  · unfold f_BC_slotWithoutTrial_c2
    split
    · exact Or.inl rfl
    · exact Or.inr (Or.inr (sl_other h))
  · exact Or.inr (Or.inr (sl_active h))
theorem sl_in {x : Int32} (h : sl_res x) (h1 : ¬ x = -1) (h2 : ¬ x = -2) : 0 ≤ x ∧ x < 4 := by
  rcases h with h | h | h
  · exact absurd h h1
  · exact absurd h h2
  · exact h
theorem hw_ok {wd : Int32} (h : ¬ f_BC_isHashWord wd = 0) : 0 ≤ wd ∧ ¬ 8 ≤ wd := by
  unfold f_BC_isHashWord at h
  by_cases h0 : wd < 0
  · rw [if_pos h0] at h; exact absurd rfl h
  · rw [if_neg h0] at h
    by_cases h1 : (8 : Int32) ≤ wd
    · rw [if_pos h1] at h; exact absurd rfl h
    · exact ⟨Int32.not_lt.mp h0, h1⟩
theorem ix_hw {wd : Int32} (h : 0 ≤ wd ∧ ¬ 8 ≤ wd) : vp_in wd 8 := ix_sub 8 8 h.1 h.2 rfl (by decide) (by decide)
theorem ix_reg {sg wd : Int32} (h : sg = 0 ∨ sg = 1) (hw : 0 ≤ wd ∧ ¬ 8 ≤ wd) : vp_in (8 * sg + wd) 16 := ro_reg h wd hw.1 hw.2
theorem ix_has {pl wd : Int32} (h : ¬ f_FL_hasWord pl wd = 0) : vp_in (f_FL_indexOf pl wd) 70 := by
  unfold f_FL_hasWord at h
  by_cases h0 : pl < 0
  · rw [if_pos h0] at h; exact absurd rfl h
  rw [if_neg h0] at h
  by_cases h1 : (6 : Int32) ≤ pl
  · rw [if_pos h1] at h; exact absurd rfl h
  rw [if_neg h1] at h
  by_cases h2 : 0 ≤ wd
  · rw [if_pos h2] at h
    obtain ⟨a, ha, rfl⟩ := nI_of h0
    obtain ⟨b, hb, rfl⟩ := nI_of (Int32.not_lt.mpr h2)
    rw [show (6 : Int32) = nI 6 from rfl, nI_leI (by decide) ha] at h1
    unfold f_FL_indexOf
    by_cases h3 : (4 : Int32) ≤ nI a
    · rw [if_pos h3] at h ⊢
      rw [show (4 : Int32) = nI 4 from rfl, nI_leI (by decide) ha] at h3
      by_cases h4 : (3 : Int32) ≤ nI b
      · rw [if_pos h4] at h; exact absurd rfl h
      rw [show (3 : Int32) = nI 3 from rfl, nI_leI (by decide) hb] at h4
      rw [show (4 : Int32) = nI 4 from rfl, pk_sub h3, show (3 : Int32) = nI 3 from rfl, pk_mul, show (64 : Int32) = nI 64 from rfl, nI_add, nI_add]
      exact vp_in_nI (by omega) (by decide)
    · rw [if_neg h3] at h ⊢
      rw [show (4 : Int32) = nI 4 from rfl, nI_leI (by decide) ha] at h3
      by_cases h4 : (16 : Int32) ≤ nI b
      · rw [if_pos h4] at h; exact absurd rfl h
      rw [show (16 : Int32) = nI 16 from rfl, nI_leI (by decide) hb] at h4
      rw [show (16 : Int32) = nI 16 from rfl, pk_mul, nI_add]
      exact vp_in_nI (by omega) (by decide)
  · rw [if_neg h2] at h; exact absurd rfl h
def run_ok (ru : Nat → Int32) : Prop := (ru 0 = -1 ∨ (0 ≤ ru 0 ∧ ru 0 < 4)) ∧ (ru 1 = -1 ∨ (0 ≤ ru 1 ∧ ru 1 < 4))
theorem hru_of {ru : Nat → Int32} (h : run_ok ru) (hb : ¬ f_BC_bothStagesRun ru = 0) : (0 ≤ ru 0 ∧ ru 0 < 4) ∧ (0 ≤ ru 1 ∧ ru 1 < 4) := by
  unfold f_BC_bothStagesRun at hb
  by_cases h0 : ru 0 = -1
  · rw [show ((0 : Int32)).toNatClampNeg = 0 from rfl, if_pos h0] at hb; exact absurd rfl hb
  · rw [show ((0 : Int32)).toNatClampNeg = 0 from rfl, if_neg h0] at hb
    by_cases h1 : ru 1 = -1
    · rw [show ((1 : Int32)).toNatClampNeg = 1 from rfl, if_pos h1] at hb; exact absurd rfl hb
    · exact ⟨h.1.resolve_left h0, h.2.resolve_left h1⟩

-- BC_power
theorem d_BC_power_0 : decode prog_1_method_4_code 0 = .ok (.iload_n 1, 1) := by decide +kernel
theorem d_BC_power_1 : decode prog_1_method_4_code 1 = .ok (.iconst (-1), 1) := by decide +kernel
theorem d_BC_power_2 : decode prog_1_method_4_code 2 = .ok (.if_icmp .lt 10, 3) := by decide +kernel
theorem d_BC_power_5 : decode prog_1_method_4_code 5 = .ok (.iload_n 1, 1) := by decide +kernel
theorem d_BC_power_6 : decode prog_1_method_4_code 6 = .ok (.sipush 1000, 3) := by decide +kernel
theorem d_BC_power_9 : decode prog_1_method_4_code 9 = .ok (.if_icmp .le 13, 3) := by decide +kernel
theorem d_BC_power_12 : decode prog_1_method_4_code 12 = .ok (.new 50, 3) := by decide +kernel
theorem d_BC_power_15 : decode prog_1_method_4_code 15 = .ok (.dup, 1) := by decide +kernel
theorem d_BC_power_16 : decode prog_1_method_4_code 16 = .ok (.ldc 108, 2) := by decide +kernel
theorem d_BC_power_18 : decode prog_1_method_4_code 18 = .ok (.invokespecial 54, 3) := by decide +kernel
theorem d_BC_power_21 : decode prog_1_method_4_code 21 = .ok (.athrow, 1) := by decide +kernel
theorem d_BC_power_22 : decode prog_1_method_4_code 22 = .ok (.aload_n 0, 1) := by decide +kernel
theorem d_BC_power_23 : decode prog_1_method_4_code 23 = .ok (.getfield 10, 3) := by decide +kernel
theorem d_BC_power_26 : decode prog_1_method_4_code 26 = .ok (.iload_n 1, 1) := by decide +kernel
theorem d_BC_power_27 : decode prog_1_method_4_code 27 = .ok (.invokevirtual 110, 3) := by decide +kernel
theorem d_BC_power_30 : decode prog_1_method_4_code 30 = .ok (.return_, 1) := by decide +kernel
def y_BC_power : MethodName := ⟨"BootChain", "power", "(I)V"⟩
def ws_BC_power : List Cond := .code y_BC_power prog_1_method_4_code 2 none :: bc_G
def f_BC_power_j12 (n0 : Int32) (wl : Int32) (fw : Nat → Int32) (y1_1 : Int32) : Nat × Int32 := (1, y1_1)
def f_BC_power (n0 : Int32) (wl : Int32) (fw : Nat → Int32) : Nat × Int32 := if n0 < (-1 : Int32) then f_BC_power_j12 n0 wl fw wl else if n0 ≤ (1000 : Int32) then (0, (f_FL_allowWrites n0 wl fw)) else f_BC_power_j12 n0 wl fw wl
set_option maxHeartbeats 4000000 in
set_option maxRecDepth 100000 in
theorem c_BC_power (l : Launch) (hlt : l.stackTraces = false) (dC : Nat → ClassId) (dI : Nat → Nat → Nat) (cI cJ : ClassId) (h qf qd qi qs qr qc qg qh qfw : Nat) (sz : Nat) (n0 : Int32) (wl : Int32) (fw : Nat → Int32) : tx_Met l y_BC_power ws_BC_power ({ frames := 6, cells := 1, slots := 6, locals := 100 } : Room) (va_Pc [.ref h, .int n0] (bc_pre (dC, dI) cI cJ [(h, .inr (0, [.ref qf, .ref qd, .ref qi, .ref qs, .ref qr, .ref qc, .ref qg, .ref qh])), (qf, .inr (1, [.ref qfw, .int wl])), (qfw, .inl (cI, 70, .inl fw))] sz)) (bc_Qx (f_BC_power n0 wl fw).1 none (dC, dI) cI cJ (va_A [(h, .inr (0, [.ref qf, .ref qd, .ref qi, .ref qs, .ref qr, .ref qc, .ref qg, .ref qh])), (qf, .inr (1, [.ref qfw, .int wl])), (qfw, .inl (cI, 70, .inl fw))] sz) [(h, .inr (0, [.ref qf, .ref qd, .ref qi, .ref qs, .ref qr, .ref qc, .ref qg, .ref qh])), (qf, .inr (1, [.ref qfw, .int (f_BC_power n0 wl fw).2])), (qfw, .inl (cI, 70, .inl fw))]) 1 6 (va_A [(h, .inr (0, [.ref qf, .ref qd, .ref qi, .ref qs, .ref qr, .ref qc, .ref qg, .ref qh])), (qf, .inr (1, [.ref qfw, .int wl])), (qfw, .inl (cI, 70, .inl fw))] sz) := by
  refine tx_ofW (cc := prog_1_method_4_code) (maxL := 2) (ret := none) (by decide) rfl ?_
  intro p e s m args below meth c s₁ B hml hv
  obtain ⟨rfl, hsz, hP, hK, hD0, hE⟩ := hv
  have hx := B.exec
  have hb := B.bytes
  have hr := B.returns
  have hts : ∀ w ∈ bc_G, w.before ([.ref h, .int n0] : List Value).toArray s = true := fun w h => atoms_spec (ws := ws_BC_power) B.pre w (List.mem_cons_of_mem _ h)
  have hown : s.vm.findClass "BootChain" = some m.cls := findClass_of_methodNamed B.named
  have hlocks := B.notSynchronized
  subst hsz
  have hem := B.noHandlers (atoms_spec (ws := ws_BC_power) B.pre _ List.mem_cons_self)
  have hD := hD0.self (sz := s.heap.size)
  generalize hAe : va_A [(h, .inr (0, [.ref qf, .ref qd, .ref qi, .ref qs, .ref qr, .ref qc, .ref qg, .ref qh])), (qf, .inr (1, [.ref qfw, .int wl])), (qfw, .inl (cI, 70, .inl fw))] s.heap.size = A at hD hE ⊢
  have hA : ∀ q : Nat, s.heap.size ≤ q → A q := fun q h => by rw [← hAe]; exact Or.inr h
  have hS : va_S A s.heap s.heap [] := va_S.rf
  have jn_12 : ∀ (y1_1 : Int32) (H : Heap) (locs : List Loc) (ls : Array Slot), lv_has ls 2 [] → va_P (dC, dI) classes [(h, .inr (0, [.ref qf, .ref qd, .ref qi, .ref qs, .ref qr, .ref qc, .ref qg, .ref qh])), (qf, .inr (1, [.ref qfw, .int y1_1])), (qfw, .inl (cI, 70, .inl fw))] H → va_D A [(h, .inr (0, [.ref qf, .ref qd, .ref qi, .ref qs, .ref qr, .ref qc, .ref qg, .ref qh])), (qf, .inr (1, [.ref qfw, .int y1_1])), (qfw, .inl (cI, 70, .inl fw))] → va_S A s.heap H locs → W p l e (headSpec ws_BC_power ({ frames := 6, cells := 1, slots := 6, locals := 100 } : Room)).room s m ([.ref h, .int n0] : List Value).toArray below meth c H locs 0 0 (tx_MQ below (bc_Qx (f_BC_power_j12 n0 wl fw y1_1).1 none (dC, dI) cI cJ A [(h, .inr (0, [.ref qf, .ref qd, .ref qi, .ref qs, .ref qr, .ref qc, .ref qg, .ref qh])), (qf, .inr (1, [.ref qfw, .int (f_BC_power_j12 n0 wl fw y1_1).2])), (qfw, .inl (cI, 70, .inl fw))]) ([.ref h, .int n0] : List Value).toArray s 1 6 A) (F0 m 12 ls []) := by
    intro y1_1 H locs ls hl hP hD hS
    have e0 : (f_BC_power_j12 n0 wl fw y1_1) = (1, y1_1) := by rw [f_BC_power_j12]
    rw [e0]
    obtain ⟨sa, hstr⟩ := hE.2.2.2.1 (108, "words is not -1 .. 1000") (List.mem_of_getElem? (i := 4) rfl)
    exact tx_throw (own := "BootChain") (cls := "java/lang/IllegalArgumentException") (names := bc_up) (ik := 50) (is := 108) (ic := 54) (A := A) hx hb hlt hown (by decide +kernel) (by decide +kernel) (bc_tw hts hE ow_54) (hts _ gw_118) (hts _ gw_10) hE.2.2.1.1 hE.2.2.1.2 hstr hS hS.2.2 hl.1 hml hem hlocks (Nat.le_of_ble_eq_true rfl) (Nat.le_of_ble_eq_true rfl) (Nat.le_of_ble_eq_true rfl) (Nat.le_of_ble_eq_true rfl) d_BC_power_12 d_BC_power_15 d_BC_power_16 d_BC_power_18 d_BC_power_21 (bc_thrown (by simp [bc_exc, bc_IAE, bc_ISE, bc_UOE]) hP hK hD hS)
  have hl := lv_entry ([.ref h, .int n0]) (n := 2) (Nat.le_of_ble_eq_true rfl)
  rw [lg_entry_eq]
  generalize (lg_sl ([.ref h, .int n0]) ++ List.replicate (2 - (lg_sl ([.ref h, .int n0])).length) Slot.unset).toArray = ls at hl ⊢
  have hl : lv_has ls 2 [(0, .ref h), (1, .int n0)] := hl
  refine lv_iload_n hx hb d_BC_power_0 rfl (lv_at hl 1 rfl) ?_
  refine lv_iconst (v := (-1)) hx hb d_BC_power_1 (by decide) ?_
  refine lv_icmp_lt (tgt := 12) hx hb d_BC_power_2 (by decide) (fun h3 => ?_) (fun h3 => ?_)
  · have e0 : (f_BC_power n0 wl fw) = f_BC_power_j12 n0 wl fw wl := by rw [f_BC_power, if_pos h3]
    rw [e0]
    exact jn_12 wl _ _ ls (lv_sub hl [] rfl) hP hD hS
  · refine lv_iload_n hx hb d_BC_power_5 rfl (lv_at hl 1 rfl) ?_
    refine lv_sipush (v := 1000) hx hb d_BC_power_6 (by decide) ?_
    refine lv_icmp_le (tgt := 22) hx hb d_BC_power_9 (by decide) (fun h4 => ?_) (fun h4 => ?_)
    · refine lv_aload_n hx hb d_BC_power_22 rfl (lv_at hl 0 rfl) ?_
      refine va_get (D := (dC, dI)) (ci := 0) (v := .ref qf) (C := R_BC) (T := F_BC) (N := 8) hx hb hts in_BC hown hK hP 0 rfl rfl 0 (by decide) (hts _ gw_65) (fun _ h9 => h9) rfl d_BC_power_23 ?_
      refine lv_iload_n hx hb d_BC_power_26 rfl (lv_at hl 1 rfl) ?_
      have hPc := hP.sub (ws' := [(qf, .inr (1, [.ref qfw, .int wl])), (qfw, .inl (cI, 70, .inl fw))]) [1, 2] rfl
      have hDc := hD.sub (ws' := [(qf, .inr (1, [.ref qfw, .int wl])), (qfw, .inl (cI, 70, .inl fw))]) [1, 2] (by decide) rfl
      have hFc := va_free (wc := [(qf, .inr (1, [.ref qfw, .int wl])), (qfw, .inl (cI, 70, .inl fw))]) hD hS hA [1, 2] rfl
      refine va_callv (va_runV (As := [.int n0]) (rest := []) ⟨hx, hb, hml, hown, hts⟩ (c_FL_allowWrites l dC dI cI cJ qf qfw _ n0 wl fw) ⟨callB_of 1 hts (bc_good gw_294) rfl rfl rfl (hts _ gw_2) (hts _ gw_291) (by decide +kernel) ⟨Nat.le_of_ble_eq_true rfl, Nat.le_of_ble_eq_true rfl⟩, (hts _ gw_292), (hts _ gw_293)⟩ ⟨bc_blind, va_recv (q0 := 1) hK hP (q := (R_FL, F_FL, 2)) rfl rfl, fun U hU hW => ⟨rfl, bc_give hPc hDc hK hE hS hFc U hU hW⟩⟩ rfl rfl hl.1 rfl (lv_room (Nat.le_of_ble_eq_true rfl)) d_BC_power_27 ⟨Nat.le_of_ble_eq_true rfl, Nat.le_of_ble_eq_true rfl⟩) hS (fun q _ h => hFc q h) hFc (fun u t H9 locs ht hvm hp hB hz1 hk1 hS => ?_)
      obtain ⟨hP, hD⟩ := va_join (wr := [(h, .inr (0, [.ref qf, .ref qd, .ref qi, .ref qs, .ref qr, .ref qc, .ref qg, .ref qh]))]) (w1 := [(qf, .inr (1, [.ref qfw, .int (f_FL_allowWrites n0 wl fw)])), (qfw, .inl (cI, 70, .inl fw))]) hP hD [1, 2] [0] rfl rfl (by decide) (by decide) hk1 hFc (ht ▸ hB.1) hB.2.2
      have hP := hP.sub (ws' := [(h, .inr (0, [.ref qf, .ref qd, .ref qi, .ref qs, .ref qr, .ref qc, .ref qg, .ref qh])), (qf, .inr (1, [.ref qfw, .int (f_FL_allowWrites n0 wl fw)])), (qfw, .inl (cI, 70, .inl fw))]) [0, 1, 2] rfl
      have hD := hD.sub (ws' := [(h, .inr (0, [.ref qf, .ref qd, .ref qi, .ref qs, .ref qr, .ref qc, .ref qg, .ref qh])), (qf, .inr (1, [.ref qfw, .int (f_FL_allowWrites n0 wl fw)])), (qfw, .inl (cI, 70, .inl fw))]) [0, 1, 2] (by decide) rfl
      generalize H9 = H at hP hS ⊢
      have e0 : (f_BC_power n0 wl fw) = (0, (f_FL_allowWrites n0 wl fw)) := by rw [f_BC_power, if_neg h3, if_pos h4]
      rw [e0]
      refine W.widen (k := 1) (n := 6) (Nat.zero_le _) (Nat.zero_le _) ?_
      exact tx_mono (fun _ h => tx_ofMQ h) (W.vret hx hb hr (fun t ht hW => ⟨Or.inl ⟨rfl, rfl⟩, ⟨by rw [ht]; exact hP, va_K.moved hW.alike hK, hD⟩, hS.F ht⟩) hS.2.2 d_BC_power_30)
    · have e0 : (f_BC_power n0 wl fw) = f_BC_power_j12 n0 wl fw wl := by rw [f_BC_power, if_neg h3, if_neg h4]
      rw [e0]
      exact jn_12 wl _ _ ls (lv_sub hl [] rfl) hP hD hS
-- BC_counter
theorem d_BC_counter_0 : decode prog_1_method_11_code 0 = .ok (.iload_n 1, 1) := by decide +kernel
theorem d_BC_counter_1 : decode prog_1_method_11_code 1 = .ok (.invokestatic 70, 3) := by decide +kernel
theorem d_BC_counter_4 : decode prog_1_method_11_code 4 = .ok (.ifCond .ne 13, 3) := by decide +kernel
theorem d_BC_counter_7 : decode prog_1_method_11_code 7 = .ok (.new 50, 3) := by decide +kernel
theorem d_BC_counter_10 : decode prog_1_method_11_code 10 = .ok (.dup, 1) := by decide +kernel
theorem d_BC_counter_11 : decode prog_1_method_11_code 11 = .ok (.ldc 140, 2) := by decide +kernel
theorem d_BC_counter_13 : decode prog_1_method_11_code 13 = .ok (.invokespecial 54, 3) := by decide +kernel
theorem d_BC_counter_16 : decode prog_1_method_11_code 16 = .ok (.athrow, 1) := by decide +kernel
theorem d_BC_counter_17 : decode prog_1_method_11_code 17 = .ok (.aload_n 0, 1) := by decide +kernel
theorem d_BC_counter_18 : decode prog_1_method_11_code 18 = .ok (.getfield 41, 3) := by decide +kernel
theorem d_BC_counter_21 : decode prog_1_method_11_code 21 = .ok (.iload_n 1, 1) := by decide +kernel
theorem d_BC_counter_22 : decode prog_1_method_11_code 22 = .ok (.iaload, 1) := by decide +kernel
theorem d_BC_counter_23 : decode prog_1_method_11_code 23 = .ok (.ireturn, 1) := by decide +kernel
def y_BC_counter : MethodName := ⟨"BootChain", "counter", "(I)I"⟩
def ws_BC_counter : List Cond := .code y_BC_counter prog_1_method_11_code 2 (some .int) :: bc_G
def f_BC_counter (sg : Int32) (cn : Nat → Int32) : Nat × Int32 := if (f_BC_isStage sg) = 0 then (1, 0) else (0, (cn (sg).toNatClampNeg))
set_option maxHeartbeats 4000000 in
set_option maxRecDepth 100000 in
theorem c_BC_counter (l : Launch) (hlt : l.stackTraces = false) (dC : Nat → ClassId) (dI : Nat → Nat → Nat) (cI cJ : ClassId) (h qf qd qi qs qr qc qg qh : Nat) (sz : Nat) (sg : Int32) (cn : Nat → Int32) : tx_Met l y_BC_counter ws_BC_counter ({ frames := 6, cells := 1, slots := 6, locals := 100 } : Room) (va_Pc [.ref h, .int sg] (bc_pre (dC, dI) cI cJ [(h, .inr (0, [.ref qf, .ref qd, .ref qi, .ref qs, .ref qr, .ref qc, .ref qg, .ref qh])), (qc, .inl (cI, 2, .inl cn))] sz)) (bc_Qx (f_BC_counter sg cn).1 (some (.int (f_BC_counter sg cn).2)) (dC, dI) cI cJ (va_A [(h, .inr (0, [.ref qf, .ref qd, .ref qi, .ref qs, .ref qr, .ref qc, .ref qg, .ref qh])), (qc, .inl (cI, 2, .inl cn))] sz) [(h, .inr (0, [.ref qf, .ref qd, .ref qi, .ref qs, .ref qr, .ref qc, .ref qg, .ref qh])), (qc, .inl (cI, 2, .inl cn))]) 1 6 (va_A [(h, .inr (0, [.ref qf, .ref qd, .ref qi, .ref qs, .ref qr, .ref qc, .ref qg, .ref qh])), (qc, .inl (cI, 2, .inl cn))] sz) := by
  refine tx_ofW (cc := prog_1_method_11_code) (maxL := 2) (ret := (some .int)) (by decide) rfl ?_
  intro p e s m args below meth c s₁ B hml hv
  obtain ⟨rfl, hsz, hP, hK, hD0, hE⟩ := hv
  have hx := B.exec
  have hb := B.bytes
  have hr := B.returns
  have hts : ∀ w ∈ bc_G, w.before ([.ref h, .int sg] : List Value).toArray s = true := fun w h => atoms_spec (ws := ws_BC_counter) B.pre w (List.mem_cons_of_mem _ h)
  have hown : s.vm.findClass "BootChain" = some m.cls := findClass_of_methodNamed B.named
  have hlocks := B.notSynchronized
  subst hsz
  have hem := B.noHandlers (atoms_spec (ws := ws_BC_counter) B.pre _ List.mem_cons_self)
  have hD := hD0.self (sz := s.heap.size)
  generalize hAe : va_A [(h, .inr (0, [.ref qf, .ref qd, .ref qi, .ref qs, .ref qr, .ref qc, .ref qg, .ref qh])), (qc, .inl (cI, 2, .inl cn))] s.heap.size = A at hD hE ⊢
  have hA : ∀ q : Nat, s.heap.size ≤ q → A q := fun q h => by rw [← hAe]; exact Or.inr h
  have hS : va_S A s.heap s.heap [] := va_S.rf
  have hl := lv_entry ([.ref h, .int sg]) (n := 2) (Nat.le_of_ble_eq_true rfl)
  rw [lg_entry_eq]
  generalize (lg_sl ([.ref h, .int sg]) ++ List.replicate (2 - (lg_sl ([.ref h, .int sg])).length) Slot.unset).toArray = ls at hl ⊢
  have hl : lv_has ls 2 [(0, .ref h), (1, .int sg)] := hl
  refine lv_iload_n hx hb d_BC_counter_0 rfl (lv_at hl 1 rfl) ?_
  have hPc := hP.sub (ws' := []) [] rfl
  have hDc := hD.sub (ws' := []) [] (by decide) rfl
  have hFc := va_free (wc := []) hD hS hA [] rfl
  refine va_calli (va_runS (As := [.int sg]) (rest := []) ⟨hx, hb, hml, hown, hts⟩ (c_BC_isStage l dC dI cI cJ _ sg) ⟨callB_of 1 hts (bc_good gw_197) rfl rfl rfl (hts _ gw_1) (hts _ gw_195) (by decide +kernel) ⟨Nat.le_of_ble_eq_true rfl, Nat.le_of_ble_eq_true rfl⟩, (hts _ gw_196)⟩ ⟨bc_blind, fun U hU hW => ⟨rfl, bc_give hPc hDc hK hE hS hFc U hU hW⟩⟩ rfl rfl hl.1 rfl (lv_room (Nat.le_of_ble_eq_true rfl)) d_BC_counter_1 ⟨Nat.le_of_ble_eq_true rfl, Nat.le_of_ble_eq_true rfl⟩) hS (fun q _ h => hFc q h) hFc (fun r u t H9 locs ht hvm hp hB hz1 hk1 hS => ?_)
  subst hp
  obtain ⟨hP, hD⟩ := va_join (wr := [(h, .inr (0, [.ref qf, .ref qd, .ref qi, .ref qs, .ref qr, .ref qc, .ref qg, .ref qh])), (qc, .inl (cI, 2, .inl cn))]) (w1 := []) hP hD [] [0, 1] rfl rfl (by decide) (by decide) hk1 hFc (ht ▸ hB.1) hB.2.2
  have hP := hP.sub (ws' := [(h, .inr (0, [.ref qf, .ref qd, .ref qi, .ref qs, .ref qr, .ref qc, .ref qg, .ref qh])), (qc, .inl (cI, 2, .inl cn))]) [0, 1] rfl
  have hD := hD.sub (ws' := [(h, .inr (0, [.ref qf, .ref qd, .ref qi, .ref qs, .ref qr, .ref qc, .ref qg, .ref qh])), (qc, .inl (cI, 2, .inl cn))]) [0, 1] (by decide) rfl
  generalize H9 = H at hP hS ⊢
  refine lv_if_ne (tgt := 17) hx hb d_BC_counter_4 (by decide) (fun h2 => ?_) (fun h2 => ?_)
  · refine lv_aload_n hx hb d_BC_counter_17 rfl (lv_at hl 0 rfl) ?_
    refine va_get (D := (dC, dI)) (ci := 0) (v := .ref qc) (C := R_BC) (T := F_BC) (N := 8) hx hb hts in_BC hown hK hP 0 rfl rfl 5 (by decide) (hts _ gw_70) (fun _ h9 => h9) rfl d_BC_counter_18 ?_
    refine lv_iload_n hx hb d_BC_counter_21 rfl (lv_at hl 1 rfl) ?_
    refine va_iald hx hb hK hP 1 0 rfl rfl (by exact ix_st (st_ok (by assumption))) d_BC_counter_22 ?_
    have e0 : (f_BC_counter sg cn) = (0, (cn (sg).toNatClampNeg)) := by rw [f_BC_counter, if_neg h2]
    rw [e0]
    refine W.widen (k := 1) (n := 6) (Nat.zero_le _) (Nat.zero_le _) ?_
    exact tx_mono (fun _ h => tx_ofMQ h) (W.iret (v := (cn (sg).toNatClampNeg)) hx hb hr (fun t ht hW => ⟨Or.inl ⟨rfl, rfl⟩, ⟨by rw [ht]; exact hP, va_K.moved hW.alike hK, hD⟩, hS.F ht⟩) hS.2.2 d_BC_counter_23)
  · have e0 : (f_BC_counter sg cn) = (1, 0) := by rw [f_BC_counter, if_pos h2]
    rw [e0]
    obtain ⟨sa, hstr⟩ := hE.2.2.2.1 (140, "no such stage") (List.mem_of_getElem? (i := 6) rfl)
    exact tx_throw (own := "BootChain") (cls := "java/lang/IllegalArgumentException") (names := bc_up) (ik := 50) (is := 140) (ic := 54) (A := A) hx hb hlt hown (by decide +kernel) (by decide +kernel) (bc_tw hts hE ow_54) (hts _ gw_118) (hts _ gw_10) hE.2.2.1.1 hE.2.2.1.2 hstr hS hS.2.2 hl.1 hml hem hlocks (Nat.le_of_ble_eq_true rfl) (Nat.le_of_ble_eq_true rfl) (Nat.le_of_ble_eq_true rfl) (Nat.le_of_ble_eq_true rfl) d_BC_counter_7 d_BC_counter_10 d_BC_counter_11 d_BC_counter_13 d_BC_counter_16 (bc_thrown (by simp [bc_exc, bc_IAE, bc_ISE, bc_UOE]) hP hK hD hS)
-- BC_runs
theorem d_BC_runs_0 : decode prog_1_method_7_code 0 = .ok (.iload_n 1, 1) := by decide +kernel
theorem d_BC_runs_1 : decode prog_1_method_7_code 1 = .ok (.invokestatic 70, 3) := by decide +kernel
theorem d_BC_runs_4 : decode prog_1_method_7_code 4 = .ok (.ifCond .ne 13, 3) := by decide +kernel
theorem d_BC_runs_7 : decode prog_1_method_7_code 7 = .ok (.new 50, 3) := by decide +kernel
theorem d_BC_runs_10 : decode prog_1_method_7_code 10 = .ok (.dup, 1) := by decide +kernel
theorem d_BC_runs_11 : decode prog_1_method_7_code 11 = .ok (.ldc 140, 2) := by decide +kernel
theorem d_BC_runs_13 : decode prog_1_method_7_code 13 = .ok (.invokespecial 54, 3) := by decide +kernel
theorem d_BC_runs_16 : decode prog_1_method_7_code 16 = .ok (.athrow, 1) := by decide +kernel
theorem d_BC_runs_17 : decode prog_1_method_7_code 17 = .ok (.aload_n 0, 1) := by decide +kernel
theorem d_BC_runs_18 : decode prog_1_method_7_code 18 = .ok (.getfield 37, 3) := by decide +kernel
theorem d_BC_runs_21 : decode prog_1_method_7_code 21 = .ok (.iload_n 1, 1) := by decide +kernel
theorem d_BC_runs_22 : decode prog_1_method_7_code 22 = .ok (.iaload, 1) := by decide +kernel
theorem d_BC_runs_23 : decode prog_1_method_7_code 23 = .ok (.ireturn, 1) := by decide +kernel
def y_BC_runs : MethodName := ⟨"BootChain", "runs", "(I)I"⟩
def ws_BC_runs : List Cond := .code y_BC_runs prog_1_method_7_code 2 (some .int) :: bc_G
def f_BC_runs (sg : Int32) (ru : Nat → Int32) : Nat × Int32 := if (f_BC_isStage sg) = 0 then (1, 0) else (0, (ru (sg).toNatClampNeg))
set_option maxHeartbeats 4000000 in
set_option maxRecDepth 100000 in
theorem c_BC_runs (l : Launch) (hlt : l.stackTraces = false) (dC : Nat → ClassId) (dI : Nat → Nat → Nat) (cI cJ : ClassId) (h qf qd qi qs qr qc qg qh : Nat) (sz : Nat) (sg : Int32) (ru : Nat → Int32) : tx_Met l y_BC_runs ws_BC_runs ({ frames := 6, cells := 1, slots := 6, locals := 100 } : Room) (va_Pc [.ref h, .int sg] (bc_pre (dC, dI) cI cJ [(h, .inr (0, [.ref qf, .ref qd, .ref qi, .ref qs, .ref qr, .ref qc, .ref qg, .ref qh])), (qr, .inl (cI, 2, .inl ru))] sz)) (bc_Qx (f_BC_runs sg ru).1 (some (.int (f_BC_runs sg ru).2)) (dC, dI) cI cJ (va_A [(h, .inr (0, [.ref qf, .ref qd, .ref qi, .ref qs, .ref qr, .ref qc, .ref qg, .ref qh])), (qr, .inl (cI, 2, .inl ru))] sz) [(h, .inr (0, [.ref qf, .ref qd, .ref qi, .ref qs, .ref qr, .ref qc, .ref qg, .ref qh])), (qr, .inl (cI, 2, .inl ru))]) 1 6 (va_A [(h, .inr (0, [.ref qf, .ref qd, .ref qi, .ref qs, .ref qr, .ref qc, .ref qg, .ref qh])), (qr, .inl (cI, 2, .inl ru))] sz) := by
  refine tx_ofW (cc := prog_1_method_7_code) (maxL := 2) (ret := (some .int)) (by decide) rfl ?_
  intro p e s m args below meth c s₁ B hml hv
  obtain ⟨rfl, hsz, hP, hK, hD0, hE⟩ := hv
  have hx := B.exec
  have hb := B.bytes
  have hr := B.returns
  have hts : ∀ w ∈ bc_G, w.before ([.ref h, .int sg] : List Value).toArray s = true := fun w h => atoms_spec (ws := ws_BC_runs) B.pre w (List.mem_cons_of_mem _ h)
  have hown : s.vm.findClass "BootChain" = some m.cls := findClass_of_methodNamed B.named
  have hlocks := B.notSynchronized
  subst hsz
  have hem := B.noHandlers (atoms_spec (ws := ws_BC_runs) B.pre _ List.mem_cons_self)
  have hD := hD0.self (sz := s.heap.size)
  generalize hAe : va_A [(h, .inr (0, [.ref qf, .ref qd, .ref qi, .ref qs, .ref qr, .ref qc, .ref qg, .ref qh])), (qr, .inl (cI, 2, .inl ru))] s.heap.size = A at hD hE ⊢
  have hA : ∀ q : Nat, s.heap.size ≤ q → A q := fun q h => by rw [← hAe]; exact Or.inr h
  have hS : va_S A s.heap s.heap [] := va_S.rf
  have hl := lv_entry ([.ref h, .int sg]) (n := 2) (Nat.le_of_ble_eq_true rfl)
  rw [lg_entry_eq]
  generalize (lg_sl ([.ref h, .int sg]) ++ List.replicate (2 - (lg_sl ([.ref h, .int sg])).length) Slot.unset).toArray = ls at hl ⊢
  have hl : lv_has ls 2 [(0, .ref h), (1, .int sg)] := hl
  refine lv_iload_n hx hb d_BC_runs_0 rfl (lv_at hl 1 rfl) ?_
  have hPc := hP.sub (ws' := []) [] rfl
  have hDc := hD.sub (ws' := []) [] (by decide) rfl
  have hFc := va_free (wc := []) hD hS hA [] rfl
  refine va_calli (va_runS (As := [.int sg]) (rest := []) ⟨hx, hb, hml, hown, hts⟩ (c_BC_isStage l dC dI cI cJ _ sg) ⟨callB_of 1 hts (bc_good gw_197) rfl rfl rfl (hts _ gw_1) (hts _ gw_195) (by decide +kernel) ⟨Nat.le_of_ble_eq_true rfl, Nat.le_of_ble_eq_true rfl⟩, (hts _ gw_196)⟩ ⟨bc_blind, fun U hU hW => ⟨rfl, bc_give hPc hDc hK hE hS hFc U hU hW⟩⟩ rfl rfl hl.1 rfl (lv_room (Nat.le_of_ble_eq_true rfl)) d_BC_runs_1 ⟨Nat.le_of_ble_eq_true rfl, Nat.le_of_ble_eq_true rfl⟩) hS (fun q _ h => hFc q h) hFc (fun r u t H9 locs ht hvm hp hB hz1 hk1 hS => ?_)
  subst hp
  obtain ⟨hP, hD⟩ := va_join (wr := [(h, .inr (0, [.ref qf, .ref qd, .ref qi, .ref qs, .ref qr, .ref qc, .ref qg, .ref qh])), (qr, .inl (cI, 2, .inl ru))]) (w1 := []) hP hD [] [0, 1] rfl rfl (by decide) (by decide) hk1 hFc (ht ▸ hB.1) hB.2.2
  have hP := hP.sub (ws' := [(h, .inr (0, [.ref qf, .ref qd, .ref qi, .ref qs, .ref qr, .ref qc, .ref qg, .ref qh])), (qr, .inl (cI, 2, .inl ru))]) [0, 1] rfl
  have hD := hD.sub (ws' := [(h, .inr (0, [.ref qf, .ref qd, .ref qi, .ref qs, .ref qr, .ref qc, .ref qg, .ref qh])), (qr, .inl (cI, 2, .inl ru))]) [0, 1] (by decide) rfl
  generalize H9 = H at hP hS ⊢
  refine lv_if_ne (tgt := 17) hx hb d_BC_runs_4 (by decide) (fun h2 => ?_) (fun h2 => ?_)
  · refine lv_aload_n hx hb d_BC_runs_17 rfl (lv_at hl 0 rfl) ?_
    refine va_get (D := (dC, dI)) (ci := 0) (v := .ref qr) (C := R_BC) (T := F_BC) (N := 8) hx hb hts in_BC hown hK hP 0 rfl rfl 4 (by decide) (hts _ gw_69) (fun _ h9 => h9) rfl d_BC_runs_18 ?_
    refine lv_iload_n hx hb d_BC_runs_21 rfl (lv_at hl 1 rfl) ?_
    refine va_iald hx hb hK hP 1 0 rfl rfl (by exact ix_st (st_ok (by assumption))) d_BC_runs_22 ?_
    have e0 : (f_BC_runs sg ru) = (0, (ru (sg).toNatClampNeg)) := by rw [f_BC_runs, if_neg h2]
    rw [e0]
    refine W.widen (k := 1) (n := 6) (Nat.zero_le _) (Nat.zero_le _) ?_
    exact tx_mono (fun _ h => tx_ofMQ h) (W.iret (v := (ru (sg).toNatClampNeg)) hx hb hr (fun t ht hW => ⟨Or.inl ⟨rfl, rfl⟩, ⟨by rw [ht]; exact hP, va_K.moved hW.alike hK, hD⟩, hS.F ht⟩) hS.2.2 d_BC_runs_23)
  · have e0 : (f_BC_runs sg ru) = (1, 0) := by rw [f_BC_runs, if_pos h2]
    rw [e0]
    obtain ⟨sa, hstr⟩ := hE.2.2.2.1 (140, "no such stage") (List.mem_of_getElem? (i := 6) rfl)
    exact tx_throw (own := "BootChain") (cls := "java/lang/IllegalArgumentException") (names := bc_up) (ik := 50) (is := 140) (ic := 54) (A := A) hx hb hlt hown (by decide +kernel) (by decide +kernel) (bc_tw hts hE ow_54) (hts _ gw_118) (hts _ gw_10) hE.2.2.1.1 hE.2.2.1.2 hstr hS hS.2.2 hl.1 hml hem hlocks (Nat.le_of_ble_eq_true rfl) (Nat.le_of_ble_eq_true rfl) (Nat.le_of_ble_eq_true rfl) (Nat.le_of_ble_eq_true rfl) d_BC_runs_7 d_BC_runs_10 d_BC_runs_11 d_BC_runs_13 d_BC_runs_16 (bc_thrown (by simp [bc_exc, bc_IAE, bc_ISE, bc_UOE]) hP hK hD hS)
-- BC_spoil
theorem d_BC_spoil_0 : decode prog_1_method_8_code 0 = .ok (.iload_n 1, 1) := by decide +kernel
theorem d_BC_spoil_1 : decode prog_1_method_8_code 1 = .ok (.iload_n 2, 1) := by decide +kernel
theorem d_BC_spoil_2 : decode prog_1_method_8_code 2 = .ok (.invokestatic 142, 3) := by decide +kernel
theorem d_BC_spoil_5 : decode prog_1_method_8_code 5 = .ok (.ifCond .ne 13, 3) := by decide +kernel
theorem d_BC_spoil_8 : decode prog_1_method_8_code 8 = .ok (.new 50, 3) := by decide +kernel
theorem d_BC_spoil_11 : decode prog_1_method_8_code 11 = .ok (.dup, 1) := by decide +kernel
theorem d_BC_spoil_12 : decode prog_1_method_8_code 12 = .ok (.ldc 146, 2) := by decide +kernel
theorem d_BC_spoil_14 : decode prog_1_method_8_code 14 = .ok (.invokespecial 54, 3) := by decide +kernel
theorem d_BC_spoil_17 : decode prog_1_method_8_code 17 = .ok (.athrow, 1) := by decide +kernel
theorem d_BC_spoil_18 : decode prog_1_method_8_code 18 = .ok (.aload_n 0, 1) := by decide +kernel
theorem d_BC_spoil_19 : decode prog_1_method_8_code 19 = .ok (.getfield 10, 3) := by decide +kernel
theorem d_BC_spoil_22 : decode prog_1_method_8_code 22 = .ok (.iload_n 1, 1) := by decide +kernel
theorem d_BC_spoil_23 : decode prog_1_method_8_code 23 = .ok (.iload_n 2, 1) := by decide +kernel
theorem d_BC_spoil_24 : decode prog_1_method_8_code 24 = .ok (.iload_n 3, 1) := by decide +kernel
theorem d_BC_spoil_25 : decode prog_1_method_8_code 25 = .ok (.invokevirtual 148, 3) := by decide +kernel
theorem d_BC_spoil_28 : decode prog_1_method_8_code 28 = .ok (.return_, 1) := by decide +kernel
def y_BC_spoil : MethodName := ⟨"BootChain", "spoil", "(III)V"⟩
def ws_BC_spoil : List Cond := .code y_BC_spoil prog_1_method_8_code 4 none :: bc_G
def f_BC_spoil (pl : Int32) (wd : Int32) (bi : Int32) (wl : Int32) (fw : Nat → Int32) : Nat × (Nat → Int32) := if (f_FL_hasWord pl wd) = 0 then (1, fw) else (0, (f_FL_turnOver pl wd bi wl fw))
set_option maxHeartbeats 4000000 in
set_option maxRecDepth 100000 in
theorem c_BC_spoil (l : Launch) (hlt : l.stackTraces = false) (dC : Nat → ClassId) (dI : Nat → Nat → Nat) (cI cJ : ClassId) (h qf qd qi qs qr qc qg qh qfw : Nat) (sz : Nat) (pl : Int32) (wd : Int32) (bi : Int32) (wl : Int32) (fw : Nat → Int32) : tx_Met l y_BC_spoil ws_BC_spoil ({ frames := 6, cells := 1, slots := 6, locals := 100 } : Room) (va_Pc [.ref h, .int pl, .int wd, .int bi] (bc_pre (dC, dI) cI cJ [(h, .inr (0, [.ref qf, .ref qd, .ref qi, .ref qs, .ref qr, .ref qc, .ref qg, .ref qh])), (qf, .inr (1, [.ref qfw, .int wl])), (qfw, .inl (cI, 70, .inl fw))] sz)) (bc_Qx (f_BC_spoil pl wd bi wl fw).1 none (dC, dI) cI cJ (va_A [(h, .inr (0, [.ref qf, .ref qd, .ref qi, .ref qs, .ref qr, .ref qc, .ref qg, .ref qh])), (qf, .inr (1, [.ref qfw, .int wl])), (qfw, .inl (cI, 70, .inl fw))] sz) [(h, .inr (0, [.ref qf, .ref qd, .ref qi, .ref qs, .ref qr, .ref qc, .ref qg, .ref qh])), (qf, .inr (1, [.ref qfw, .int wl])), (qfw, .inl (cI, 70, .inl (f_BC_spoil pl wd bi wl fw).2))]) 1 6 (va_A [(h, .inr (0, [.ref qf, .ref qd, .ref qi, .ref qs, .ref qr, .ref qc, .ref qg, .ref qh])), (qf, .inr (1, [.ref qfw, .int wl])), (qfw, .inl (cI, 70, .inl fw))] sz) := by
  refine tx_ofW (cc := prog_1_method_8_code) (maxL := 4) (ret := none) (by decide) rfl ?_
  intro p e s m args below meth c s₁ B hml hv
  obtain ⟨rfl, hsz, hP, hK, hD0, hE⟩ := hv
  have hx := B.exec
  have hb := B.bytes
  have hr := B.returns
  have hts : ∀ w ∈ bc_G, w.before ([.ref h, .int pl, .int wd, .int bi] : List Value).toArray s = true := fun w h => atoms_spec (ws := ws_BC_spoil) B.pre w (List.mem_cons_of_mem _ h)
  have hown : s.vm.findClass "BootChain" = some m.cls := findClass_of_methodNamed B.named
  have hlocks := B.notSynchronized
  subst hsz
  have hem := B.noHandlers (atoms_spec (ws := ws_BC_spoil) B.pre _ List.mem_cons_self)
  have hD := hD0.self (sz := s.heap.size)
  generalize hAe : va_A [(h, .inr (0, [.ref qf, .ref qd, .ref qi, .ref qs, .ref qr, .ref qc, .ref qg, .ref qh])), (qf, .inr (1, [.ref qfw, .int wl])), (qfw, .inl (cI, 70, .inl fw))] s.heap.size = A at hD hE ⊢
  have hA : ∀ q : Nat, s.heap.size ≤ q → A q := fun q h => by rw [← hAe]; exact Or.inr h
  have hS : va_S A s.heap s.heap [] := va_S.rf
  have hl := lv_entry ([.ref h, .int pl, .int wd, .int bi]) (n := 4) (Nat.le_of_ble_eq_true rfl)
  rw [lg_entry_eq]
  generalize (lg_sl ([.ref h, .int pl, .int wd, .int bi]) ++ List.replicate (4 - (lg_sl ([.ref h, .int pl, .int wd, .int bi])).length) Slot.unset).toArray = ls at hl ⊢
  have hl : lv_has ls 4 [(0, .ref h), (1, .int pl), (2, .int wd), (3, .int bi)] := hl
  refine lv_iload_n hx hb d_BC_spoil_0 rfl (lv_at hl 1 rfl) ?_
  refine lv_iload_n hx hb d_BC_spoil_1 rfl (lv_at hl 2 rfl) ?_
  have hPc := hP.sub (ws' := []) [] rfl
  have hDc := hD.sub (ws' := []) [] (by decide) rfl
  have hFc := va_free (wc := []) hD hS hA [] rfl
  refine va_calli (va_runS (As := [.int pl, .int wd]) (rest := []) ⟨hx, hb, hml, hown, hts⟩ (c_FL_hasWord l dC dI cI cJ _ pl wd) ⟨callB_of 2 hts (bc_good gw_400) rfl rfl rfl (hts _ gw_2) (hts _ gw_398) (by decide +kernel) ⟨Nat.le_of_ble_eq_true rfl, Nat.le_of_ble_eq_true rfl⟩, (hts _ gw_399)⟩ ⟨bc_blind, fun U hU hW => ⟨rfl, bc_give hPc hDc hK hE hS hFc U hU hW⟩⟩ rfl rfl hl.1 rfl (lv_room (Nat.le_of_ble_eq_true rfl)) d_BC_spoil_2 ⟨Nat.le_of_ble_eq_true rfl, Nat.le_of_ble_eq_true rfl⟩) hS (fun q _ h => hFc q h) hFc (fun r u t H9 locs ht hvm hp hB hz1 hk1 hS => ?_)
  subst hp
  obtain ⟨hP, hD⟩ := va_join (wr := [(h, .inr (0, [.ref qf, .ref qd, .ref qi, .ref qs, .ref qr, .ref qc, .ref qg, .ref qh])), (qf, .inr (1, [.ref qfw, .int wl])), (qfw, .inl (cI, 70, .inl fw))]) (w1 := []) hP hD [] [0, 1, 2] rfl rfl (by decide) (by decide) hk1 hFc (ht ▸ hB.1) hB.2.2
  have hP := hP.sub (ws' := [(h, .inr (0, [.ref qf, .ref qd, .ref qi, .ref qs, .ref qr, .ref qc, .ref qg, .ref qh])), (qf, .inr (1, [.ref qfw, .int wl])), (qfw, .inl (cI, 70, .inl fw))]) [0, 1, 2] rfl
  have hD := hD.sub (ws' := [(h, .inr (0, [.ref qf, .ref qd, .ref qi, .ref qs, .ref qr, .ref qc, .ref qg, .ref qh])), (qf, .inr (1, [.ref qfw, .int wl])), (qfw, .inl (cI, 70, .inl fw))]) [0, 1, 2] (by decide) rfl
  generalize H9 = H at hP hS ⊢
  refine lv_if_ne (tgt := 18) hx hb d_BC_spoil_5 (by decide) (fun h2 => ?_) (fun h2 => ?_)
  · refine lv_aload_n hx hb d_BC_spoil_18 rfl (lv_at hl 0 rfl) ?_
    refine va_get (D := (dC, dI)) (ci := 0) (v := .ref qf) (C := R_BC) (T := F_BC) (N := 8) hx hb hts in_BC hown hK hP 0 rfl rfl 0 (by decide) (hts _ gw_65) (fun _ h9 => h9) rfl d_BC_spoil_19 ?_
    refine lv_iload_n hx hb d_BC_spoil_22 rfl (lv_at hl 1 rfl) ?_
    refine lv_iload_n hx hb d_BC_spoil_23 rfl (lv_at hl 2 rfl) ?_
    refine lv_iload_n hx hb d_BC_spoil_24 rfl (lv_at hl 3 rfl) ?_
    have hPc := hP.sub (ws' := [(qf, .inr (1, [.ref qfw, .int wl])), (qfw, .inl (cI, 70, .inl fw))]) [1, 2] rfl
    have hDc := hD.sub (ws' := [(qf, .inr (1, [.ref qfw, .int wl])), (qfw, .inl (cI, 70, .inl fw))]) [1, 2] (by decide) rfl
    have hFc := va_free (wc := [(qf, .inr (1, [.ref qfw, .int wl])), (qfw, .inl (cI, 70, .inl fw))]) hD hS hA [1, 2] rfl
    refine va_callv (va_runV (As := [.int pl, .int wd, .int bi]) (rest := []) ⟨hx, hb, hml, hown, hts⟩ (c_FL_turnOver l dC dI cI cJ qf qfw _ pl wd bi wl fw (ix_has (by assumption))) ⟨callB_of 3 hts (bc_good gw_404) rfl rfl rfl (hts _ gw_2) (hts _ gw_401) (by decide +kernel) ⟨Nat.le_of_ble_eq_true rfl, Nat.le_of_ble_eq_true rfl⟩, (hts _ gw_402), (hts _ gw_403)⟩ ⟨bc_blind, va_recv (q0 := 1) hK hP (q := (R_FL, F_FL, 2)) rfl rfl, fun U hU hW => ⟨rfl, bc_give hPc hDc hK hE hS hFc U hU hW⟩⟩ rfl rfl hl.1 rfl (lv_room (Nat.le_of_ble_eq_true rfl)) d_BC_spoil_25 ⟨Nat.le_of_ble_eq_true rfl, Nat.le_of_ble_eq_true rfl⟩) hS (fun q _ h => hFc q h) hFc (fun u t H9 locs ht hvm hp hB hz1 hk1 hS => ?_)
    obtain ⟨hP, hD⟩ := va_join (wr := [(h, .inr (0, [.ref qf, .ref qd, .ref qi, .ref qs, .ref qr, .ref qc, .ref qg, .ref qh]))]) (w1 := [(qf, .inr (1, [.ref qfw, .int wl])), (qfw, .inl (cI, 70, .inl (f_FL_turnOver pl wd bi wl fw)))]) hP hD [1, 2] [0] rfl rfl (by decide) (by decide) hk1 hFc (ht ▸ hB.1) hB.2.2
    have hP := hP.sub (ws' := [(h, .inr (0, [.ref qf, .ref qd, .ref qi, .ref qs, .ref qr, .ref qc, .ref qg, .ref qh])), (qf, .inr (1, [.ref qfw, .int wl])), (qfw, .inl (cI, 70, .inl (f_FL_turnOver pl wd bi wl fw)))]) [0, 1, 2] rfl
    have hD := hD.sub (ws' := [(h, .inr (0, [.ref qf, .ref qd, .ref qi, .ref qs, .ref qr, .ref qc, .ref qg, .ref qh])), (qf, .inr (1, [.ref qfw, .int wl])), (qfw, .inl (cI, 70, .inl (f_FL_turnOver pl wd bi wl fw)))]) [0, 1, 2] (by decide) rfl
    generalize H9 = H at hP hS ⊢
    have e0 : (f_BC_spoil pl wd bi wl fw) = (0, (f_FL_turnOver pl wd bi wl fw)) := by rw [f_BC_spoil, if_neg h2]
    rw [e0]
    refine W.widen (k := 1) (n := 6) (Nat.zero_le _) (Nat.zero_le _) ?_
    exact tx_mono (fun _ h => tx_ofMQ h) (W.vret hx hb hr (fun t ht hW => ⟨Or.inl ⟨rfl, rfl⟩, ⟨by rw [ht]; exact hP, va_K.moved hW.alike hK, hD⟩, hS.F ht⟩) hS.2.2 d_BC_spoil_28)
  · have e0 : (f_BC_spoil pl wd bi wl fw) = (1, fw) := by rw [f_BC_spoil, if_pos h2]
    rw [e0]
    obtain ⟨sa, hstr⟩ := hE.2.2.2.1 (146, "no such word of the flash") (List.mem_of_getElem? (i := 7) rfl)
    exact tx_throw (own := "BootChain") (cls := "java/lang/IllegalArgumentException") (names := bc_up) (ik := 50) (is := 146) (ic := 54) (A := A) hx hb hlt hown (by decide +kernel) (by decide +kernel) (bc_tw hts hE ow_54) (hts _ gw_118) (hts _ gw_10) hE.2.2.1.1 hE.2.2.1.2 hstr hS hS.2.2 hl.1 hml hem hlocks (Nat.le_of_ble_eq_true rfl) (Nat.le_of_ble_eq_true rfl) (Nat.le_of_ble_eq_true rfl) (Nat.le_of_ble_eq_true rfl) d_BC_spoil_8 d_BC_spoil_11 d_BC_spoil_12 d_BC_spoil_14 d_BC_spoil_17 (bc_thrown (by simp [bc_exc, bc_IAE, bc_ISE, bc_UOE]) hP hK hD hS)
-- BC_flash
theorem d_BC_flash_0 : decode prog_1_method_9_code 0 = .ok (.iload_n 1, 1) := by decide +kernel
theorem d_BC_flash_1 : decode prog_1_method_9_code 1 = .ok (.iload_n 2, 1) := by decide +kernel
theorem d_BC_flash_2 : decode prog_1_method_9_code 2 = .ok (.invokestatic 142, 3) := by decide +kernel
theorem d_BC_flash_5 : decode prog_1_method_9_code 5 = .ok (.ifCond .ne 13, 3) := by decide +kernel
theorem d_BC_flash_8 : decode prog_1_method_9_code 8 = .ok (.new 50, 3) := by decide +kernel
theorem d_BC_flash_11 : decode prog_1_method_9_code 11 = .ok (.dup, 1) := by decide +kernel
theorem d_BC_flash_12 : decode prog_1_method_9_code 12 = .ok (.ldc 146, 2) := by decide +kernel
theorem d_BC_flash_14 : decode prog_1_method_9_code 14 = .ok (.invokespecial 54, 3) := by decide +kernel
theorem d_BC_flash_17 : decode prog_1_method_9_code 17 = .ok (.athrow, 1) := by decide +kernel
theorem d_BC_flash_18 : decode prog_1_method_9_code 18 = .ok (.aload_n 0, 1) := by decide +kernel
theorem d_BC_flash_19 : decode prog_1_method_9_code 19 = .ok (.getfield 10, 3) := by decide +kernel
theorem d_BC_flash_22 : decode prog_1_method_9_code 22 = .ok (.iload_n 1, 1) := by decide +kernel
theorem d_BC_flash_23 : decode prog_1_method_9_code 23 = .ok (.iload_n 2, 1) := by decide +kernel
theorem d_BC_flash_24 : decode prog_1_method_9_code 24 = .ok (.invokevirtual 151, 3) := by decide +kernel
theorem d_BC_flash_27 : decode prog_1_method_9_code 27 = .ok (.ireturn, 1) := by decide +kernel
def y_BC_flash : MethodName := ⟨"BootChain", "flash", "(II)I"⟩
def ws_BC_flash : List Cond := .code y_BC_flash prog_1_method_9_code 3 (some .int) :: bc_G
def f_BC_flash (pl : Int32) (wd : Int32) (wl : Int32) (fw : Nat → Int32) : Nat × Int32 := if (f_FL_hasWord pl wd) = 0 then (1, 0) else (0, (f_FL_read pl wd wl fw))
set_option maxHeartbeats 4000000 in
set_option maxRecDepth 100000 in
theorem c_BC_flash (l : Launch) (hlt : l.stackTraces = false) (dC : Nat → ClassId) (dI : Nat → Nat → Nat) (cI cJ : ClassId) (h qf qd qi qs qr qc qg qh qfw : Nat) (sz : Nat) (pl : Int32) (wd : Int32) (wl : Int32) (fw : Nat → Int32) : tx_Met l y_BC_flash ws_BC_flash ({ frames := 6, cells := 1, slots := 6, locals := 100 } : Room) (va_Pc [.ref h, .int pl, .int wd] (bc_pre (dC, dI) cI cJ [(h, .inr (0, [.ref qf, .ref qd, .ref qi, .ref qs, .ref qr, .ref qc, .ref qg, .ref qh])), (qf, .inr (1, [.ref qfw, .int wl])), (qfw, .inl (cI, 70, .inl fw))] sz)) (bc_Qx (f_BC_flash pl wd wl fw).1 (some (.int (f_BC_flash pl wd wl fw).2)) (dC, dI) cI cJ (va_A [(h, .inr (0, [.ref qf, .ref qd, .ref qi, .ref qs, .ref qr, .ref qc, .ref qg, .ref qh])), (qf, .inr (1, [.ref qfw, .int wl])), (qfw, .inl (cI, 70, .inl fw))] sz) [(h, .inr (0, [.ref qf, .ref qd, .ref qi, .ref qs, .ref qr, .ref qc, .ref qg, .ref qh])), (qf, .inr (1, [.ref qfw, .int wl])), (qfw, .inl (cI, 70, .inl fw))]) 1 6 (va_A [(h, .inr (0, [.ref qf, .ref qd, .ref qi, .ref qs, .ref qr, .ref qc, .ref qg, .ref qh])), (qf, .inr (1, [.ref qfw, .int wl])), (qfw, .inl (cI, 70, .inl fw))] sz) := by
  refine tx_ofW (cc := prog_1_method_9_code) (maxL := 3) (ret := (some .int)) (by decide) rfl ?_
  intro p e s m args below meth c s₁ B hml hv
  obtain ⟨rfl, hsz, hP, hK, hD0, hE⟩ := hv
  have hx := B.exec
  have hb := B.bytes
  have hr := B.returns
  have hts : ∀ w ∈ bc_G, w.before ([.ref h, .int pl, .int wd] : List Value).toArray s = true := fun w h => atoms_spec (ws := ws_BC_flash) B.pre w (List.mem_cons_of_mem _ h)
  have hown : s.vm.findClass "BootChain" = some m.cls := findClass_of_methodNamed B.named
  have hlocks := B.notSynchronized
  subst hsz
  have hem := B.noHandlers (atoms_spec (ws := ws_BC_flash) B.pre _ List.mem_cons_self)
  have hD := hD0.self (sz := s.heap.size)
  generalize hAe : va_A [(h, .inr (0, [.ref qf, .ref qd, .ref qi, .ref qs, .ref qr, .ref qc, .ref qg, .ref qh])), (qf, .inr (1, [.ref qfw, .int wl])), (qfw, .inl (cI, 70, .inl fw))] s.heap.size = A at hD hE ⊢
  have hA : ∀ q : Nat, s.heap.size ≤ q → A q := fun q h => by rw [← hAe]; exact Or.inr h
  have hS : va_S A s.heap s.heap [] := va_S.rf
  have hl := lv_entry ([.ref h, .int pl, .int wd]) (n := 3) (Nat.le_of_ble_eq_true rfl)
  rw [lg_entry_eq]
  generalize (lg_sl ([.ref h, .int pl, .int wd]) ++ List.replicate (3 - (lg_sl ([.ref h, .int pl, .int wd])).length) Slot.unset).toArray = ls at hl ⊢
  have hl : lv_has ls 3 [(0, .ref h), (1, .int pl), (2, .int wd)] := hl
  refine lv_iload_n hx hb d_BC_flash_0 rfl (lv_at hl 1 rfl) ?_
  refine lv_iload_n hx hb d_BC_flash_1 rfl (lv_at hl 2 rfl) ?_
  have hPc := hP.sub (ws' := []) [] rfl
  have hDc := hD.sub (ws' := []) [] (by decide) rfl
  have hFc := va_free (wc := []) hD hS hA [] rfl
  refine va_calli (va_runS (As := [.int pl, .int wd]) (rest := []) ⟨hx, hb, hml, hown, hts⟩ (c_FL_hasWord l dC dI cI cJ _ pl wd) ⟨callB_of 2 hts (bc_good gw_400) rfl rfl rfl (hts _ gw_2) (hts _ gw_398) (by decide +kernel) ⟨Nat.le_of_ble_eq_true rfl, Nat.le_of_ble_eq_true rfl⟩, (hts _ gw_399)⟩ ⟨bc_blind, fun U hU hW => ⟨rfl, bc_give hPc hDc hK hE hS hFc U hU hW⟩⟩ rfl rfl hl.1 rfl (lv_room (Nat.le_of_ble_eq_true rfl)) d_BC_flash_2 ⟨Nat.le_of_ble_eq_true rfl, Nat.le_of_ble_eq_true rfl⟩) hS (fun q _ h => hFc q h) hFc (fun r u t H9 locs ht hvm hp hB hz1 hk1 hS => ?_)
  subst hp
  obtain ⟨hP, hD⟩ := va_join (wr := [(h, .inr (0, [.ref qf, .ref qd, .ref qi, .ref qs, .ref qr, .ref qc, .ref qg, .ref qh])), (qf, .inr (1, [.ref qfw, .int wl])), (qfw, .inl (cI, 70, .inl fw))]) (w1 := []) hP hD [] [0, 1, 2] rfl rfl (by decide) (by decide) hk1 hFc (ht ▸ hB.1) hB.2.2
  have hP := hP.sub (ws' := [(h, .inr (0, [.ref qf, .ref qd, .ref qi, .ref qs, .ref qr, .ref qc, .ref qg, .ref qh])), (qf, .inr (1, [.ref qfw, .int wl])), (qfw, .inl (cI, 70, .inl fw))]) [0, 1, 2] rfl
  have hD := hD.sub (ws' := [(h, .inr (0, [.ref qf, .ref qd, .ref qi, .ref qs, .ref qr, .ref qc, .ref qg, .ref qh])), (qf, .inr (1, [.ref qfw, .int wl])), (qfw, .inl (cI, 70, .inl fw))]) [0, 1, 2] (by decide) rfl
  generalize H9 = H at hP hS ⊢
  refine lv_if_ne (tgt := 18) hx hb d_BC_flash_5 (by decide) (fun h2 => ?_) (fun h2 => ?_)
  · refine lv_aload_n hx hb d_BC_flash_18 rfl (lv_at hl 0 rfl) ?_
    refine va_get (D := (dC, dI)) (ci := 0) (v := .ref qf) (C := R_BC) (T := F_BC) (N := 8) hx hb hts in_BC hown hK hP 0 rfl rfl 0 (by decide) (hts _ gw_65) (fun _ h9 => h9) rfl d_BC_flash_19 ?_
    refine lv_iload_n hx hb d_BC_flash_22 rfl (lv_at hl 1 rfl) ?_
    refine lv_iload_n hx hb d_BC_flash_23 rfl (lv_at hl 2 rfl) ?_
    have hPc := hP.sub (ws' := [(qf, .inr (1, [.ref qfw, .int wl])), (qfw, .inl (cI, 70, .inl fw))]) [1, 2] rfl
    have hDc := hD.sub (ws' := [(qf, .inr (1, [.ref qfw, .int wl])), (qfw, .inl (cI, 70, .inl fw))]) [1, 2] (by decide) rfl
    have hFc := va_free (wc := [(qf, .inr (1, [.ref qfw, .int wl])), (qfw, .inl (cI, 70, .inl fw))]) hD hS hA [1, 2] rfl
    refine va_calli (va_runV (As := [.int pl, .int wd]) (rest := []) ⟨hx, hb, hml, hown, hts⟩ (c_FL_read l dC dI cI cJ qf qfw _ pl wd wl fw (ix_has (by assumption))) ⟨callB_of 2 hts (bc_good gw_99) rfl rfl rfl (hts _ gw_2) (hts _ gw_384) (by decide +kernel) ⟨Nat.le_of_ble_eq_true rfl, Nat.le_of_ble_eq_true rfl⟩, (hts _ gw_97), (hts _ gw_98)⟩ ⟨bc_blind, va_recv (q0 := 1) hK hP (q := (R_FL, F_FL, 2)) rfl rfl, fun U hU hW => ⟨rfl, bc_give hPc hDc hK hE hS hFc U hU hW⟩⟩ rfl rfl hl.1 rfl (lv_room (Nat.le_of_ble_eq_true rfl)) d_BC_flash_24 ⟨Nat.le_of_ble_eq_true rfl, Nat.le_of_ble_eq_true rfl⟩) hS (fun q _ h => hFc q h) hFc (fun r u t H9 locs ht hvm hp hB hz1 hk1 hS => ?_)
    subst hp
    obtain ⟨hP, hD⟩ := va_join (wr := [(h, .inr (0, [.ref qf, .ref qd, .ref qi, .ref qs, .ref qr, .ref qc, .ref qg, .ref qh]))]) (w1 := [(qf, .inr (1, [.ref qfw, .int wl])), (qfw, .inl (cI, 70, .inl fw))]) hP hD [1, 2] [0] rfl rfl (by decide) (by decide) hk1 hFc (ht ▸ hB.1) hB.2.2
    have hP := hP.sub (ws' := [(h, .inr (0, [.ref qf, .ref qd, .ref qi, .ref qs, .ref qr, .ref qc, .ref qg, .ref qh])), (qf, .inr (1, [.ref qfw, .int wl])), (qfw, .inl (cI, 70, .inl fw))]) [0, 1, 2] rfl
    have hD := hD.sub (ws' := [(h, .inr (0, [.ref qf, .ref qd, .ref qi, .ref qs, .ref qr, .ref qc, .ref qg, .ref qh])), (qf, .inr (1, [.ref qfw, .int wl])), (qfw, .inl (cI, 70, .inl fw))]) [0, 1, 2] (by decide) rfl
    generalize H9 = H at hP hS ⊢
    have e0 : (f_BC_flash pl wd wl fw) = (0, (f_FL_read pl wd wl fw)) := by rw [f_BC_flash, if_neg h2]
    rw [e0]
    refine W.widen (k := 1) (n := 6) (Nat.zero_le _) (Nat.zero_le _) ?_
    exact tx_mono (fun _ h => tx_ofMQ h) (W.iret (v := (f_FL_read pl wd wl fw)) hx hb hr (fun t ht hW => ⟨Or.inl ⟨rfl, rfl⟩, ⟨by rw [ht]; exact hP, va_K.moved hW.alike hK, hD⟩, hS.F ht⟩) hS.2.2 d_BC_flash_27)
  · have e0 : (f_BC_flash pl wd wl fw) = (1, 0) := by rw [f_BC_flash, if_pos h2]
    rw [e0]
    obtain ⟨sa, hstr⟩ := hE.2.2.2.1 (146, "no such word of the flash") (List.mem_of_getElem? (i := 7) rfl)
    exact tx_throw (own := "BootChain") (cls := "java/lang/IllegalArgumentException") (names := bc_up) (ik := 50) (is := 146) (ic := 54) (A := A) hx hb hlt hown (by decide +kernel) (by decide +kernel) (bc_tw hts hE ow_54) (hts _ gw_118) (hts _ gw_10) hE.2.2.1.1 hE.2.2.1.2 hstr hS hS.2.2 hl.1 hml hem hlocks (Nat.le_of_ble_eq_true rfl) (Nat.le_of_ble_eq_true rfl) (Nat.le_of_ble_eq_true rfl) (Nat.le_of_ble_eq_true rfl) d_BC_flash_8 d_BC_flash_11 d_BC_flash_12 d_BC_flash_14 d_BC_flash_17 (bc_thrown (by simp [bc_exc, bc_IAE, bc_ISE, bc_UOE]) hP hK hD hS)
-- BC_register
theorem d_BC_register_0 : decode prog_1_method_12_code 0 = .ok (.iload_n 1, 1) := by decide +kernel
theorem d_BC_register_1 : decode prog_1_method_12_code 1 = .ok (.invokestatic 70, 3) := by decide +kernel
theorem d_BC_register_4 : decode prog_1_method_12_code 4 = .ok (.ifCond .eq 10, 3) := by decide +kernel
theorem d_BC_register_7 : decode prog_1_method_12_code 7 = .ok (.iload_n 2, 1) := by decide +kernel
theorem d_BC_register_8 : decode prog_1_method_12_code 8 = .ok (.invokestatic 154, 3) := by decide +kernel
theorem d_BC_register_11 : decode prog_1_method_12_code 11 = .ok (.ifCond .ne 13, 3) := by decide +kernel
theorem d_BC_register_14 : decode prog_1_method_12_code 14 = .ok (.new 50, 3) := by decide +kernel
theorem d_BC_register_17 : decode prog_1_method_12_code 17 = .ok (.dup, 1) := by decide +kernel
theorem d_BC_register_18 : decode prog_1_method_12_code 18 = .ok (.ldc 157, 2) := by decide +kernel
theorem d_BC_register_20 : decode prog_1_method_12_code 20 = .ok (.invokespecial 54, 3) := by decide +kernel
theorem d_BC_register_23 : decode prog_1_method_12_code 23 = .ok (.athrow, 1) := by decide +kernel
theorem d_BC_register_24 : decode prog_1_method_12_code 24 = .ok (.aload_n 0, 1) := by decide +kernel
theorem d_BC_register_25 : decode prog_1_method_12_code 25 = .ok (.getfield 44, 3) := by decide +kernel
theorem d_BC_register_28 : decode prog_1_method_12_code 28 = .ok (.bipush 8, 2) := by decide +kernel
theorem d_BC_register_30 : decode prog_1_method_12_code 30 = .ok (.iload_n 1, 1) := by decide +kernel
theorem d_BC_register_31 : decode prog_1_method_12_code 31 = .ok (.imul, 1) := by decide +kernel
theorem d_BC_register_32 : decode prog_1_method_12_code 32 = .ok (.iload_n 2, 1) := by decide +kernel
theorem d_BC_register_33 : decode prog_1_method_12_code 33 = .ok (.iadd, 1) := by decide +kernel
theorem d_BC_register_34 : decode prog_1_method_12_code 34 = .ok (.iaload, 1) := by decide +kernel
theorem d_BC_register_35 : decode prog_1_method_12_code 35 = .ok (.ireturn, 1) := by decide +kernel
def y_BC_register : MethodName := ⟨"BootChain", "register", "(II)I"⟩
def ws_BC_register : List Cond := .code y_BC_register prog_1_method_12_code 3 (some .int) :: bc_G
def f_BC_register_j14 (sg : Int32) (wd : Int32) (rg : Nat → Int32) : Nat × Int32 := (1, 0)
def f_BC_register (sg : Int32) (wd : Int32) (rg : Nat → Int32) : Nat × Int32 := if (f_BC_isStage sg) = 0 then f_BC_register_j14 sg wd rg else if (f_BC_isHashWord wd) = 0 then f_BC_register_j14 sg wd rg else (0, (rg ((((8 : Int32) * sg) + wd)).toNatClampNeg))
set_option maxHeartbeats 4000000 in
set_option maxRecDepth 100000 in
theorem c_BC_register (l : Launch) (hlt : l.stackTraces = false) (dC : Nat → ClassId) (dI : Nat → Nat → Nat) (cI cJ : ClassId) (h qf qd qi qs qr qc qg qh : Nat) (sz : Nat) (sg : Int32) (wd : Int32) (rg : Nat → Int32) : tx_Met l y_BC_register ws_BC_register ({ frames := 6, cells := 1, slots := 6, locals := 100 } : Room) (va_Pc [.ref h, .int sg, .int wd] (bc_pre (dC, dI) cI cJ [(h, .inr (0, [.ref qf, .ref qd, .ref qi, .ref qs, .ref qr, .ref qc, .ref qg, .ref qh])), (qg, .inl (cI, 16, .inl rg))] sz)) (bc_Qx (f_BC_register sg wd rg).1 (some (.int (f_BC_register sg wd rg).2)) (dC, dI) cI cJ (va_A [(h, .inr (0, [.ref qf, .ref qd, .ref qi, .ref qs, .ref qr, .ref qc, .ref qg, .ref qh])), (qg, .inl (cI, 16, .inl rg))] sz) [(h, .inr (0, [.ref qf, .ref qd, .ref qi, .ref qs, .ref qr, .ref qc, .ref qg, .ref qh])), (qg, .inl (cI, 16, .inl rg))]) 1 6 (va_A [(h, .inr (0, [.ref qf, .ref qd, .ref qi, .ref qs, .ref qr, .ref qc, .ref qg, .ref qh])), (qg, .inl (cI, 16, .inl rg))] sz) := by
  refine tx_ofW (cc := prog_1_method_12_code) (maxL := 3) (ret := (some .int)) (by decide) rfl ?_
  intro p e s m args below meth c s₁ B hml hv
  obtain ⟨rfl, hsz, hP, hK, hD0, hE⟩ := hv
  have hx := B.exec
  have hb := B.bytes
  have hr := B.returns
  have hts : ∀ w ∈ bc_G, w.before ([.ref h, .int sg, .int wd] : List Value).toArray s = true := fun w h => atoms_spec (ws := ws_BC_register) B.pre w (List.mem_cons_of_mem _ h)
  have hown : s.vm.findClass "BootChain" = some m.cls := findClass_of_methodNamed B.named
  have hlocks := B.notSynchronized
  subst hsz
  have hem := B.noHandlers (atoms_spec (ws := ws_BC_register) B.pre _ List.mem_cons_self)
  have hD := hD0.self (sz := s.heap.size)
  generalize hAe : va_A [(h, .inr (0, [.ref qf, .ref qd, .ref qi, .ref qs, .ref qr, .ref qc, .ref qg, .ref qh])), (qg, .inl (cI, 16, .inl rg))] s.heap.size = A at hD hE ⊢
  have hA : ∀ q : Nat, s.heap.size ≤ q → A q := fun q h => by rw [← hAe]; exact Or.inr h
  have hS : va_S A s.heap s.heap [] := va_S.rf
  have jn_14 : ∀ (H : Heap) (locs : List Loc) (ls : Array Slot), lv_has ls 3 [] → va_P (dC, dI) classes [(h, .inr (0, [.ref qf, .ref qd, .ref qi, .ref qs, .ref qr, .ref qc, .ref qg, .ref qh])), (qg, .inl (cI, 16, .inl rg))] H → va_D A [(h, .inr (0, [.ref qf, .ref qd, .ref qi, .ref qs, .ref qr, .ref qc, .ref qg, .ref qh])), (qg, .inl (cI, 16, .inl rg))] → va_S A s.heap H locs → W p l e (headSpec ws_BC_register ({ frames := 6, cells := 1, slots := 6, locals := 100 } : Room)).room s m ([.ref h, .int sg, .int wd] : List Value).toArray below meth c H locs 0 0 (tx_MQ below (bc_Qx (f_BC_register_j14 sg wd rg).1 (some (.int (f_BC_register_j14 sg wd rg).2)) (dC, dI) cI cJ A [(h, .inr (0, [.ref qf, .ref qd, .ref qi, .ref qs, .ref qr, .ref qc, .ref qg, .ref qh])), (qg, .inl (cI, 16, .inl rg))]) ([.ref h, .int sg, .int wd] : List Value).toArray s 1 6 A) (F0 m 14 ls []) := by
    intro  H locs ls hl hP hD hS
    have e0 : (f_BC_register_j14 sg wd rg) = (1, 0) := by rw [f_BC_register_j14]
    rw [e0]
    obtain ⟨sa, hstr⟩ := hE.2.2.2.1 (157, "no such word of a register") (List.mem_of_getElem? (i := 8) rfl)
    exact tx_throw (own := "BootChain") (cls := "java/lang/IllegalArgumentException") (names := bc_up) (ik := 50) (is := 157) (ic := 54) (A := A) hx hb hlt hown (by decide +kernel) (by decide +kernel) (bc_tw hts hE ow_54) (hts _ gw_118) (hts _ gw_10) hE.2.2.1.1 hE.2.2.1.2 hstr hS hS.2.2 hl.1 hml hem hlocks (Nat.le_of_ble_eq_true rfl) (Nat.le_of_ble_eq_true rfl) (Nat.le_of_ble_eq_true rfl) (Nat.le_of_ble_eq_true rfl) d_BC_register_14 d_BC_register_17 d_BC_register_18 d_BC_register_20 d_BC_register_23 (bc_thrown (by simp [bc_exc, bc_IAE, bc_ISE, bc_UOE]) hP hK hD hS)
  have hl := lv_entry ([.ref h, .int sg, .int wd]) (n := 3) (Nat.le_of_ble_eq_true rfl)
  rw [lg_entry_eq]
  generalize (lg_sl ([.ref h, .int sg, .int wd]) ++ List.replicate (3 - (lg_sl ([.ref h, .int sg, .int wd])).length) Slot.unset).toArray = ls at hl ⊢
  have hl : lv_has ls 3 [(0, .ref h), (1, .int sg), (2, .int wd)] := hl
  refine lv_iload_n hx hb d_BC_register_0 rfl (lv_at hl 1 rfl) ?_
  have hPc := hP.sub (ws' := []) [] rfl
  have hDc := hD.sub (ws' := []) [] (by decide) rfl
  have hFc := va_free (wc := []) hD hS hA [] rfl
  refine va_calli (va_runS (As := [.int sg]) (rest := []) ⟨hx, hb, hml, hown, hts⟩ (c_BC_isStage l dC dI cI cJ _ sg) ⟨callB_of 1 hts (bc_good gw_197) rfl rfl rfl (hts _ gw_1) (hts _ gw_195) (by decide +kernel) ⟨Nat.le_of_ble_eq_true rfl, Nat.le_of_ble_eq_true rfl⟩, (hts _ gw_196)⟩ ⟨bc_blind, fun U hU hW => ⟨rfl, bc_give hPc hDc hK hE hS hFc U hU hW⟩⟩ rfl rfl hl.1 rfl (lv_room (Nat.le_of_ble_eq_true rfl)) d_BC_register_1 ⟨Nat.le_of_ble_eq_true rfl, Nat.le_of_ble_eq_true rfl⟩) hS (fun q _ h => hFc q h) hFc (fun r u t H9 locs ht hvm hp hB hz1 hk1 hS => ?_)
  subst hp
  obtain ⟨hP, hD⟩ := va_join (wr := [(h, .inr (0, [.ref qf, .ref qd, .ref qi, .ref qs, .ref qr, .ref qc, .ref qg, .ref qh])), (qg, .inl (cI, 16, .inl rg))]) (w1 := []) hP hD [] [0, 1] rfl rfl (by decide) (by decide) hk1 hFc (ht ▸ hB.1) hB.2.2
  have hP := hP.sub (ws' := [(h, .inr (0, [.ref qf, .ref qd, .ref qi, .ref qs, .ref qr, .ref qc, .ref qg, .ref qh])), (qg, .inl (cI, 16, .inl rg))]) [0, 1] rfl
  have hD := hD.sub (ws' := [(h, .inr (0, [.ref qf, .ref qd, .ref qi, .ref qs, .ref qr, .ref qc, .ref qg, .ref qh])), (qg, .inl (cI, 16, .inl rg))]) [0, 1] (by decide) rfl
  generalize H9 = H at hP hS ⊢
  refine lv_if_eq (tgt := 14) hx hb d_BC_register_4 (by decide) (fun h3 => ?_) (fun h3 => ?_)
  · have e0 : (f_BC_register sg wd rg) = f_BC_register_j14 sg wd rg := by rw [f_BC_register, if_pos h3]
    rw [e0]
    exact jn_14 _ _ ls (lv_sub hl [] rfl) hP hD hS
  · refine lv_iload_n hx hb d_BC_register_7 rfl (lv_at hl 2 rfl) ?_
    have hPc := hP.sub (ws' := []) [] rfl
    have hDc := hD.sub (ws' := []) [] (by decide) rfl
    have hFc := va_free (wc := []) hD hS hA [] rfl
    refine va_calli (va_runS (As := [.int wd]) (rest := []) ⟨hx, hb, hml, hown, hts⟩ (c_BC_isHashWord l dC dI cI cJ _ wd) ⟨callB_of 1 hts (bc_good gw_425) rfl rfl rfl (hts _ gw_1) (hts _ gw_423) (by decide +kernel) ⟨Nat.le_of_ble_eq_true rfl, Nat.le_of_ble_eq_true rfl⟩, (hts _ gw_424)⟩ ⟨bc_blind, fun U hU hW => ⟨rfl, bc_give hPc hDc hK hE hS hFc U hU hW⟩⟩ rfl rfl hl.1 rfl (lv_room (Nat.le_of_ble_eq_true rfl)) d_BC_register_8 ⟨Nat.le_of_ble_eq_true rfl, Nat.le_of_ble_eq_true rfl⟩) hS (fun q _ h => hFc q h) hFc (fun r u t H9 locs ht hvm hp hB hz1 hk1 hS => ?_)
    subst hp
    obtain ⟨hP, hD⟩ := va_join (wr := [(h, .inr (0, [.ref qf, .ref qd, .ref qi, .ref qs, .ref qr, .ref qc, .ref qg, .ref qh])), (qg, .inl (cI, 16, .inl rg))]) (w1 := []) hP hD [] [0, 1] rfl rfl (by decide) (by decide) hk1 hFc (ht ▸ hB.1) hB.2.2
    have hP := hP.sub (ws' := [(h, .inr (0, [.ref qf, .ref qd, .ref qi, .ref qs, .ref qr, .ref qc, .ref qg, .ref qh])), (qg, .inl (cI, 16, .inl rg))]) [0, 1] rfl
    have hD := hD.sub (ws' := [(h, .inr (0, [.ref qf, .ref qd, .ref qi, .ref qs, .ref qr, .ref qc, .ref qg, .ref qh])), (qg, .inl (cI, 16, .inl rg))]) [0, 1] (by decide) rfl
    generalize H9 = H at hP hS ⊢
    refine lv_if_ne (tgt := 24) hx hb d_BC_register_11 (by decide) (fun h4 => ?_) (fun h4 => ?_)
    · refine lv_aload_n hx hb d_BC_register_24 rfl (lv_at hl 0 rfl) ?_
      refine va_get (D := (dC, dI)) (ci := 0) (v := .ref qg) (C := R_BC) (T := F_BC) (N := 8) hx hb hts in_BC hown hK hP 0 rfl rfl 6 (by decide) (hts _ gw_71) (fun _ h9 => h9) rfl d_BC_register_25 ?_
      refine lv_bipush (v := 8) hx hb d_BC_register_28 (by decide) ?_
      refine lv_iload_n hx hb d_BC_register_30 rfl (lv_at hl 1 rfl) ?_
      refine lv_imul hx hb d_BC_register_31 ?_
      refine lv_iload_n hx hb d_BC_register_32 rfl (lv_at hl 2 rfl) ?_
      refine lv_iadd hx hb d_BC_register_33 ?_
      refine va_iald hx hb hK hP 1 0 rfl rfl (by exact ix_reg (st_ok (by assumption)) (hw_ok (by assumption))) d_BC_register_34 ?_
      have e0 : (f_BC_register sg wd rg) = (0, (rg ((((8 : Int32) * sg) + wd)).toNatClampNeg)) := by rw [f_BC_register, if_neg h3, if_neg h4]
      rw [e0]
      refine W.widen (k := 1) (n := 6) (Nat.zero_le _) (Nat.zero_le _) ?_
      exact tx_mono (fun _ h => tx_ofMQ h) (W.iret (v := (rg ((((8 : Int32) * sg) + wd)).toNatClampNeg)) hx hb hr (fun t ht hW => ⟨Or.inl ⟨rfl, rfl⟩, ⟨by rw [ht]; exact hP, va_K.moved hW.alike hK, hD⟩, hS.F ht⟩) hS.2.2 d_BC_register_35)
    · have e0 : (f_BC_register sg wd rg) = f_BC_register_j14 sg wd rg := by rw [f_BC_register, if_neg h3, if_pos h4]
      rw [e0]
      exact jn_14 _ _ ls (lv_sub hl [] rfl) hP hD hS
-- BC_payload
theorem d_BC_payload_0 : decode prog_1_method_2_code 0 = .ok (.iload_n 3, 1) := by decide +kernel
theorem d_BC_payload_1 : decode prog_1_method_2_code 1 = .ok (.iconst 1, 1) := by decide +kernel
theorem d_BC_payload_2 : decode prog_1_method_2_code 2 = .ok (.if_icmp .lt 9, 3) := by decide +kernel
theorem d_BC_payload_5 : decode prog_1_method_2_code 5 = .ok (.iload_n 3, 1) := by decide +kernel
theorem d_BC_payload_6 : decode prog_1_method_2_code 6 = .ok (.bipush 8, 2) := by decide +kernel
theorem d_BC_payload_8 : decode prog_1_method_2_code 8 = .ok (.if_icmp .le 13, 3) := by decide +kernel
theorem d_BC_payload_11 : decode prog_1_method_2_code 11 = .ok (.new 50, 3) := by decide +kernel
theorem d_BC_payload_14 : decode prog_1_method_2_code 14 = .ok (.dup, 1) := by decide +kernel
theorem d_BC_payload_15 : decode prog_1_method_2_code 15 = .ok (.ldc 52, 2) := by decide +kernel
theorem d_BC_payload_17 : decode prog_1_method_2_code 17 = .ok (.invokespecial 54, 3) := by decide +kernel
theorem d_BC_payload_20 : decode prog_1_method_2_code 20 = .ok (.athrow, 1) := by decide +kernel
theorem d_BC_payload_21 : decode prog_1_method_2_code 21 = .ok (.aload_n 0, 1) := by decide +kernel
theorem d_BC_payload_22 : decode prog_1_method_2_code 22 = .ok (.getfield 19, 3) := by decide +kernel
theorem d_BC_payload_25 : decode prog_1_method_2_code 25 = .ok (.iload_n 3, 1) := by decide +kernel
theorem d_BC_payload_26 : decode prog_1_method_2_code 26 = .ok (.invokevirtual 57, 3) := by decide +kernel
theorem d_BC_payload_29 : decode prog_1_method_2_code 29 = .ok (.ifCond .ne 13, 3) := by decide +kernel
theorem d_BC_payload_32 : decode prog_1_method_2_code 32 = .ok (.new 61, 3) := by decide +kernel
theorem d_BC_payload_35 : decode prog_1_method_2_code 35 = .ok (.dup, 1) := by decide +kernel
theorem d_BC_payload_36 : decode prog_1_method_2_code 36 = .ok (.ldc 63, 2) := by decide +kernel
theorem d_BC_payload_38 : decode prog_1_method_2_code 38 = .ok (.invokespecial 65, 3) := by decide +kernel
theorem d_BC_payload_41 : decode prog_1_method_2_code 41 = .ok (.athrow, 1) := by decide +kernel
theorem d_BC_payload_42 : decode prog_1_method_2_code 42 = .ok (.aload_n 0, 1) := by decide +kernel
theorem d_BC_payload_43 : decode prog_1_method_2_code 43 = .ok (.getfield 19, 3) := by decide +kernel
theorem d_BC_payload_46 : decode prog_1_method_2_code 46 = .ok (.lload_n 1, 1) := by decide +kernel
theorem d_BC_payload_47 : decode prog_1_method_2_code 47 = .ok (.iload_n 3, 1) := by decide +kernel
theorem d_BC_payload_48 : decode prog_1_method_2_code 48 = .ok (.invokevirtual 66, 3) := by decide +kernel
theorem d_BC_payload_51 : decode prog_1_method_2_code 51 = .ok (.return_, 1) := by decide +kernel
def y_BC_payload : MethodName := ⟨"BootChain", "payload", "(JI)V"⟩
def ws_BC_payload : List Cond := .code y_BC_payload prog_1_method_2_code 4 none :: bc_G
def f_BC_payload_c1 (bb : Int64) (n0 : Int32) (dl : Int32) (dw : Nat → Int32) (u1 : Int32 × (Nat → Int32)) : Nat × Int32 × (Nat → Int32) := (0, (u1.1), (u1.2))
def f_BC_payload_j11 (bb : Int64) (n0 : Int32) (dl : Int32) (dw : Nat → Int32) (y1_1 : Int32) (y2 : Nat → Int32) : Nat × Int32 × (Nat → Int32) := (1, y1_1, y2)
def f_BC_payload (bb : Int64) (n0 : Int32) (dl : Int32) (dw : Nat → Int32) : Nat × Int32 × (Nat → Int32) := if n0 < (1 : Int32) then f_BC_payload_j11 bb n0 dl dw dl dw else if n0 ≤ (8 : Int32) then if (f_DR_hasRoomFor n0 dl dw) = 0 then (2, dl, dw) else f_BC_payload_c1 bb n0 dl dw (f_DR_append bb n0 dl dw) else f_BC_payload_j11 bb n0 dl dw dl dw
set_option maxHeartbeats 4000000 in
set_option maxRecDepth 100000 in
theorem c_BC_payload (l : Launch) (hlt : l.stackTraces = false) (dC : Nat → ClassId) (dI : Nat → Nat → Nat) (cI cJ : ClassId) (h qf qd qi qs qr qc qg qh qdw : Nat) (sz : Nat) (bb : Int64) (n0 : Int32) (dl : Int32) (dw : Nat → Int32) (hdl : 0 ≤ dl) : tx_Met l y_BC_payload ws_BC_payload ({ frames := 6, cells := 1, slots := 6, locals := 100 } : Room) (va_Pc [.ref h, .long bb, .int n0] (bc_pre (dC, dI) cI cJ [(h, .inr (0, [.ref qf, .ref qd, .ref qi, .ref qs, .ref qr, .ref qc, .ref qg, .ref qh])), (qd, .inr (2, [.ref qdw, .int dl])), (qdw, .inl (cI, 6, .inl dw))] sz)) (bc_Qx (f_BC_payload bb n0 dl dw).1 none (dC, dI) cI cJ (va_A [(h, .inr (0, [.ref qf, .ref qd, .ref qi, .ref qs, .ref qr, .ref qc, .ref qg, .ref qh])), (qd, .inr (2, [.ref qdw, .int dl])), (qdw, .inl (cI, 6, .inl dw))] sz) [(h, .inr (0, [.ref qf, .ref qd, .ref qi, .ref qs, .ref qr, .ref qc, .ref qg, .ref qh])), (qd, .inr (2, [.ref qdw, .int (f_BC_payload bb n0 dl dw).2.1])), (qdw, .inl (cI, 6, .inl (f_BC_payload bb n0 dl dw).2.2))]) 1 6 (va_A [(h, .inr (0, [.ref qf, .ref qd, .ref qi, .ref qs, .ref qr, .ref qc, .ref qg, .ref qh])), (qd, .inr (2, [.ref qdw, .int dl])), (qdw, .inl (cI, 6, .inl dw))] sz) := by
  refine tx_ofW (cc := prog_1_method_2_code) (maxL := 4) (ret := none) (by decide) rfl ?_
  intro p e s m args below meth c s₁ B hml hv
  obtain ⟨rfl, hsz, hP, hK, hD0, hE⟩ := hv
  have hx := B.exec
  have hb := B.bytes
  have hr := B.returns
  have hts : ∀ w ∈ bc_G, w.before ([.ref h, .long bb, .int n0] : List Value).toArray s = true := fun w h => atoms_spec (ws := ws_BC_payload) B.pre w (List.mem_cons_of_mem _ h)
  have hown : s.vm.findClass "BootChain" = some m.cls := findClass_of_methodNamed B.named
  have hlocks := B.notSynchronized
  subst hsz
  have hem := B.noHandlers (atoms_spec (ws := ws_BC_payload) B.pre _ List.mem_cons_self)
  have hD := hD0.self (sz := s.heap.size)
  generalize hAe : va_A [(h, .inr (0, [.ref qf, .ref qd, .ref qi, .ref qs, .ref qr, .ref qc, .ref qg, .ref qh])), (qd, .inr (2, [.ref qdw, .int dl])), (qdw, .inl (cI, 6, .inl dw))] s.heap.size = A at hD hE ⊢
  have hA : ∀ q : Nat, s.heap.size ≤ q → A q := fun q h => by rw [← hAe]; exact Or.inr h
  have hS : va_S A s.heap s.heap [] := va_S.rf
  have jn_11 : ∀ (y1_1 : Int32) (y2 : Nat → Int32) (H : Heap) (locs : List Loc) (ls : Array Slot), lv_has ls 4 [] → va_P (dC, dI) classes [(h, .inr (0, [.ref qf, .ref qd, .ref qi, .ref qs, .ref qr, .ref qc, .ref qg, .ref qh])), (qd, .inr (2, [.ref qdw, .int y1_1])), (qdw, .inl (cI, 6, .inl y2))] H → va_D A [(h, .inr (0, [.ref qf, .ref qd, .ref qi, .ref qs, .ref qr, .ref qc, .ref qg, .ref qh])), (qd, .inr (2, [.ref qdw, .int y1_1])), (qdw, .inl (cI, 6, .inl y2))] → va_S A s.heap H locs → W p l e (headSpec ws_BC_payload ({ frames := 6, cells := 1, slots := 6, locals := 100 } : Room)).room s m ([.ref h, .long bb, .int n0] : List Value).toArray below meth c H locs 0 0 (tx_MQ below (bc_Qx (f_BC_payload_j11 bb n0 dl dw y1_1 y2).1 none (dC, dI) cI cJ A [(h, .inr (0, [.ref qf, .ref qd, .ref qi, .ref qs, .ref qr, .ref qc, .ref qg, .ref qh])), (qd, .inr (2, [.ref qdw, .int (f_BC_payload_j11 bb n0 dl dw y1_1 y2).2.1])), (qdw, .inl (cI, 6, .inl (f_BC_payload_j11 bb n0 dl dw y1_1 y2).2.2))]) ([.ref h, .long bb, .int n0] : List Value).toArray s 1 6 A) (F0 m 11 ls []) := by
    intro y1_1 y2 H locs ls hl hP hD hS
    have e0 : (f_BC_payload_j11 bb n0 dl dw y1_1 y2) = (1, y1_1, y2) := by rw [f_BC_payload_j11]
    rw [e0]
    obtain ⟨sa, hstr⟩ := hE.2.2.2.1 (52, "n is not 1 .. 8") (List.mem_of_getElem? (i := 0) rfl)
    exact tx_throw (own := "BootChain") (cls := "java/lang/IllegalArgumentException") (names := bc_up) (ik := 50) (is := 52) (ic := 54) (A := A) hx hb hlt hown (by decide +kernel) (by decide +kernel) (bc_tw hts hE ow_54) (hts _ gw_118) (hts _ gw_10) hE.2.2.1.1 hE.2.2.1.2 hstr hS hS.2.2 hl.1 hml hem hlocks (Nat.le_of_ble_eq_true rfl) (Nat.le_of_ble_eq_true rfl) (Nat.le_of_ble_eq_true rfl) (Nat.le_of_ble_eq_true rfl) d_BC_payload_11 d_BC_payload_14 d_BC_payload_15 d_BC_payload_17 d_BC_payload_20 (bc_thrown (by simp [bc_exc, bc_IAE, bc_ISE, bc_UOE]) hP hK hD hS)
  have hl := lv_entry ([.ref h, .long bb, .int n0]) (n := 4) (Nat.le_of_ble_eq_true rfl)
  rw [lg_entry_eq]
  generalize (lg_sl ([.ref h, .long bb, .int n0]) ++ List.replicate (4 - (lg_sl ([.ref h, .long bb, .int n0])).length) Slot.unset).toArray = ls at hl ⊢
  have hl : lv_has ls 4 [(0, .ref h), (1, .long bb), (3, .int n0)] := hl
  refine lv_iload_n hx hb d_BC_payload_0 rfl (lv_at hl 2 rfl) ?_
  refine lv_iconst (v := 1) hx hb d_BC_payload_1 (by decide) ?_
  refine lv_icmp_lt (tgt := 11) hx hb d_BC_payload_2 (by decide) (fun h4 => ?_) (fun h4 => ?_)
  · have e0 : (f_BC_payload bb n0 dl dw) = f_BC_payload_j11 bb n0 dl dw dl dw := by rw [f_BC_payload, if_pos h4]
    rw [e0]
    exact jn_11 dl dw _ _ ls (lv_sub hl [] rfl) hP hD hS
  · refine lv_iload_n hx hb d_BC_payload_5 rfl (lv_at hl 2 rfl) ?_
    refine lv_bipush (v := 8) hx hb d_BC_payload_6 (by decide) ?_
    refine lv_icmp_le (tgt := 21) hx hb d_BC_payload_8 (by decide) (fun h5 => ?_) (fun h5 => ?_)
    · refine lv_aload_n hx hb d_BC_payload_21 rfl (lv_at hl 0 rfl) ?_
      refine va_get (D := (dC, dI)) (ci := 0) (v := .ref qd) (C := R_BC) (T := F_BC) (N := 8) hx hb hts in_BC hown hK hP 0 rfl rfl 1 (by decide) (hts _ gw_66) (fun _ h9 => h9) rfl d_BC_payload_22 ?_
      refine lv_iload_n hx hb d_BC_payload_25 rfl (lv_at hl 2 rfl) ?_
      have hPc := hP.sub (ws' := [(qd, .inr (2, [.ref qdw, .int dl])), (qdw, .inl (cI, 6, .inl dw))]) [1, 2] rfl
      have hDc := hD.sub (ws' := [(qd, .inr (2, [.ref qdw, .int dl])), (qdw, .inl (cI, 6, .inl dw))]) [1, 2] (by decide) rfl
      have hFc := va_free (wc := [(qd, .inr (2, [.ref qdw, .int dl])), (qdw, .inl (cI, 6, .inl dw))]) hD hS hA [1, 2] rfl
      refine va_calli (va_runV (As := [.int n0]) (rest := []) ⟨hx, hb, hml, hown, hts⟩ (c_DR_hasRoomFor l dC dI cI cJ qd qdw _ n0 dl dw) ⟨callB_of 1 hts (bc_good gw_170) rfl rfl rfl (hts _ gw_3) (hts _ gw_167) (by decide +kernel) ⟨Nat.le_of_ble_eq_true rfl, Nat.le_of_ble_eq_true rfl⟩, (hts _ gw_168), (hts _ gw_169)⟩ ⟨bc_blind, va_recv (q0 := 1) hK hP (q := (R_DR, F_DR, 2)) rfl rfl, fun U hU hW => ⟨rfl, bc_give hPc hDc hK hE hS hFc U hU hW⟩⟩ rfl rfl hl.1 rfl (lv_room (Nat.le_of_ble_eq_true rfl)) d_BC_payload_26 ⟨Nat.le_of_ble_eq_true rfl, Nat.le_of_ble_eq_true rfl⟩) hS (fun q _ h => hFc q h) hFc (fun r u t H9 locs ht hvm hp hB hz1 hk1 hS => ?_)
      subst hp
      obtain ⟨hP, hD⟩ := va_join (wr := [(h, .inr (0, [.ref qf, .ref qd, .ref qi, .ref qs, .ref qr, .ref qc, .ref qg, .ref qh]))]) (w1 := [(qd, .inr (2, [.ref qdw, .int dl])), (qdw, .inl (cI, 6, .inl dw))]) hP hD [1, 2] [0] rfl rfl (by decide) (by decide) hk1 hFc (ht ▸ hB.1) hB.2.2
      have hP := hP.sub (ws' := [(h, .inr (0, [.ref qf, .ref qd, .ref qi, .ref qs, .ref qr, .ref qc, .ref qg, .ref qh])), (qd, .inr (2, [.ref qdw, .int dl])), (qdw, .inl (cI, 6, .inl dw))]) [0, 1, 2] rfl
      have hD := hD.sub (ws' := [(h, .inr (0, [.ref qf, .ref qd, .ref qi, .ref qs, .ref qr, .ref qc, .ref qg, .ref qh])), (qd, .inr (2, [.ref qdw, .int dl])), (qdw, .inl (cI, 6, .inl dw))]) [0, 1, 2] (by decide) rfl
      generalize H9 = H at hP hS ⊢
      refine lv_if_ne (tgt := 42) hx hb d_BC_payload_29 (by decide) (fun h6 => ?_) (fun h6 => ?_)
      · refine lv_aload_n hx hb d_BC_payload_42 rfl (lv_at hl 0 rfl) ?_
        refine va_get (D := (dC, dI)) (ci := 0) (v := .ref qd) (C := R_BC) (T := F_BC) (N := 8) hx hb hts in_BC hown hK hP 0 rfl rfl 1 (by decide) (hts _ gw_66) (fun _ h9 => h9) rfl d_BC_payload_43 ?_
        refine lv_lload_n hx hb d_BC_payload_46 rfl (lv_at hl 1 rfl) ?_
        refine lv_iload_n hx hb d_BC_payload_47 rfl (lv_at hl 2 rfl) ?_
        have hPc := hP.sub (ws' := [(qd, .inr (2, [.ref qdw, .int dl])), (qdw, .inl (cI, 6, .inl dw))]) [1, 2] rfl
        have hDc := hD.sub (ws' := [(qd, .inr (2, [.ref qdw, .int dl])), (qdw, .inl (cI, 6, .inl dw))]) [1, 2] (by decide) rfl
        have hFc := va_free (wc := [(qd, .inr (2, [.ref qdw, .int dl])), (qdw, .inl (cI, 6, .inl dw))]) hD hS hA [1, 2] rfl
        refine va_callv (va_runV (As := [.long bb, .int n0]) (rest := []) ⟨hx, hb, hml, hown, hts⟩ (c_DR_append l dC dI cI cJ qd qdw _ bb n0 dl dw hdl) ⟨callB_of 2 hts (bc_good gw_188) rfl rfl rfl (hts _ gw_3) (hts _ gw_185) (by decide +kernel) ⟨Nat.le_of_ble_eq_true rfl, Nat.le_of_ble_eq_true rfl⟩, (hts _ gw_186), (hts _ gw_187)⟩ ⟨bc_blind, va_recv (q0 := 1) hK hP (q := (R_DR, F_DR, 2)) rfl rfl, fun U hU hW => ⟨rfl, bc_give hPc hDc hK hE hS hFc U hU hW⟩⟩ rfl rfl hl.1 rfl (lv_room (Nat.le_of_ble_eq_true rfl)) d_BC_payload_48 ⟨Nat.le_of_ble_eq_true rfl, Nat.le_of_ble_eq_true rfl⟩) hS (fun q _ h => hFc q h) hFc (fun u t H9 locs ht hvm hp hB hz1 hk1 hS => ?_)
        obtain ⟨hP, hD⟩ := va_join (wr := [(h, .inr (0, [.ref qf, .ref qd, .ref qi, .ref qs, .ref qr, .ref qc, .ref qg, .ref qh]))]) (w1 := [(qd, .inr (2, [.ref qdw, .int ((f_DR_append bb n0 dl dw).1)])), (qdw, .inl (cI, 6, .inl ((f_DR_append bb n0 dl dw).2)))]) hP hD [1, 2] [0] rfl rfl (by decide) (by decide) hk1 hFc (ht ▸ hB.1) hB.2.2
        have hP := hP.sub (ws' := [(h, .inr (0, [.ref qf, .ref qd, .ref qi, .ref qs, .ref qr, .ref qc, .ref qg, .ref qh])), (qd, .inr (2, [.ref qdw, .int ((f_DR_append bb n0 dl dw).1)])), (qdw, .inl (cI, 6, .inl ((f_DR_append bb n0 dl dw).2)))]) [0, 1, 2] rfl
        have hD := hD.sub (ws' := [(h, .inr (0, [.ref qf, .ref qd, .ref qi, .ref qs, .ref qr, .ref qc, .ref qg, .ref qh])), (qd, .inr (2, [.ref qdw, .int ((f_DR_append bb n0 dl dw).1)])), (qdw, .inl (cI, 6, .inl ((f_DR_append bb n0 dl dw).2)))]) [0, 1, 2] (by decide) rfl
        generalize H9 = H at hP hS ⊢
        have e0 : (f_BC_payload bb n0 dl dw) = f_BC_payload_c1 bb n0 dl dw (f_DR_append bb n0 dl dw) := by rw [f_BC_payload, if_neg h4, if_pos h5, if_neg h6]
        rw [e0]
        generalize hu1 : (f_DR_append bb n0 dl dw) = u1 at hP hD ⊢
        have hP : va_P (dC, dI) classes [(h, .inr (0, [.ref qf, .ref qd, .ref qi, .ref qs, .ref qr, .ref qc, .ref qg, .ref qh])), (qd, .inr (2, [.ref qdw, .int (u1.1)])), (qdw, .inl (cI, 6, .inl (u1.2)))] H := hP
        have hD : va_D A [(h, .inr (0, [.ref qf, .ref qd, .ref qi, .ref qs, .ref qr, .ref qc, .ref qg, .ref qh])), (qd, .inr (2, [.ref qdw, .int (u1.1)])), (qdw, .inl (cI, 6, .inl (u1.2)))] := hD
        have e0 : (f_BC_payload_c1 bb n0 dl dw u1) = (0, (u1.1), (u1.2)) := by rw [f_BC_payload_c1]
        rw [e0]
        refine W.widen (k := 1) (n := 6) (Nat.zero_le _) (Nat.zero_le _) ?_
        exact tx_mono (fun _ h => tx_ofMQ h) (W.vret hx hb hr (fun t ht hW => ⟨Or.inl ⟨rfl, rfl⟩, ⟨by rw [ht]; exact hP, va_K.moved hW.alike hK, hD⟩, hS.F ht⟩) hS.2.2 d_BC_payload_51)
      · have e0 : (f_BC_payload bb n0 dl dw) = (2, dl, dw) := by rw [f_BC_payload, if_neg h4, if_pos h5, if_pos h6]
        rw [e0]
        obtain ⟨sa, hstr⟩ := hE.2.2.2.1 (63, "a payload has at most 24 bytes") (List.mem_of_getElem? (i := 1) rfl)
        exact tx_throw (own := "BootChain") (cls := "java/lang/IllegalStateException") (names := bc_up) (ik := 61) (is := 63) (ic := 65) (A := A) hx hb hlt hown (by decide +kernel) (by decide +kernel) (bc_tw hts hE ow_65) (hts _ gw_171) (hts _ gw_11) hE.2.2.1.1 hE.2.2.1.2 hstr hS hS.2.2 hl.1 hml hem hlocks (Nat.le_of_ble_eq_true rfl) (Nat.le_of_ble_eq_true rfl) (Nat.le_of_ble_eq_true rfl) (Nat.le_of_ble_eq_true rfl) d_BC_payload_32 d_BC_payload_35 d_BC_payload_36 d_BC_payload_38 d_BC_payload_41 (bc_thrown (by simp [bc_exc, bc_IAE, bc_ISE, bc_UOE]) hP hK hD hS)
    · have e0 : (f_BC_payload bb n0 dl dw) = f_BC_payload_j11 bb n0 dl dw dl dw := by rw [f_BC_payload, if_neg h4, if_neg h5]
      rw [e0]
      exact jn_11 dl dw _ _ ls (lv_sub hl [] rfl) hP hD hS
-- BC_hash
theorem d_BC_hash_0 : decode prog_1_method_14_code 0 = .ok (.iload_n 2, 1) := by decide +kernel
theorem d_BC_hash_1 : decode prog_1_method_14_code 1 = .ok (.ifCond .lt 16, 3) := by decide +kernel
theorem d_BC_hash_4 : decode prog_1_method_14_code 4 = .ok (.iload_n 2, 1) := by decide +kernel
theorem d_BC_hash_5 : decode prog_1_method_14_code 5 = .ok (.bipush 24, 2) := by decide +kernel
theorem d_BC_hash_7 : decode prog_1_method_14_code 7 = .ok (.if_icmp .gt 10, 3) := by decide +kernel
theorem d_BC_hash_10 : decode prog_1_method_14_code 10 = .ok (.iload_n 3, 1) := by decide +kernel
theorem d_BC_hash_11 : decode prog_1_method_14_code 11 = .ok (.invokestatic 154, 3) := by decide +kernel
theorem d_BC_hash_14 : decode prog_1_method_14_code 14 = .ok (.ifCond .ne 13, 3) := by decide +kernel
theorem d_BC_hash_17 : decode prog_1_method_14_code 17 = .ok (.new 50, 3) := by decide +kernel
theorem d_BC_hash_20 : decode prog_1_method_14_code 20 = .ok (.dup, 1) := by decide +kernel
theorem d_BC_hash_21 : decode prog_1_method_14_code 21 = .ok (.ldc 178, 2) := by decide +kernel
theorem d_BC_hash_23 : decode prog_1_method_14_code 23 = .ok (.invokespecial 54, 3) := by decide +kernel
theorem d_BC_hash_26 : decode prog_1_method_14_code 26 = .ok (.athrow, 1) := by decide +kernel
theorem d_BC_hash_27 : decode prog_1_method_14_code 27 = .ok (.aload_n 0, 1) := by decide +kernel
theorem d_BC_hash_28 : decode prog_1_method_14_code 28 = .ok (.getfield 33, 3) := by decide +kernel
theorem d_BC_hash_31 : decode prog_1_method_14_code 31 = .ok (.invokevirtual 161, 3) := by decide +kernel
theorem d_BC_hash_34 : decode prog_1_method_14_code 34 = .ok (.aload_n 0, 1) := by decide +kernel
theorem d_BC_hash_35 : decode prog_1_method_14_code 35 = .ok (.getfield 33, 3) := by decide +kernel
theorem d_BC_hash_38 : decode prog_1_method_14_code 38 = .ok (.iload_n 1, 1) := by decide +kernel
theorem d_BC_hash_39 : decode prog_1_method_14_code 39 = .ok (.iload_n 2, 1) := by decide +kernel
theorem d_BC_hash_40 : decode prog_1_method_14_code 40 = .ok (.invokevirtual 164, 3) := by decide +kernel
theorem d_BC_hash_43 : decode prog_1_method_14_code 43 = .ok (.aload_n 0, 1) := by decide +kernel
theorem d_BC_hash_44 : decode prog_1_method_14_code 44 = .ok (.getfield 33, 3) := by decide +kernel
theorem d_BC_hash_47 : decode prog_1_method_14_code 47 = .ok (.aload_n 0, 1) := by decide +kernel
theorem d_BC_hash_48 : decode prog_1_method_14_code 48 = .ok (.getfield 47, 3) := by decide +kernel
theorem d_BC_hash_51 : decode prog_1_method_14_code 51 = .ok (.iconst 0, 1) := by decide +kernel
theorem d_BC_hash_52 : decode prog_1_method_14_code 52 = .ok (.invokevirtual 174, 3) := by decide +kernel
theorem d_BC_hash_55 : decode prog_1_method_14_code 55 = .ok (.aload_n 0, 1) := by decide +kernel
theorem d_BC_hash_56 : decode prog_1_method_14_code 56 = .ok (.getfield 47, 3) := by decide +kernel
theorem d_BC_hash_59 : decode prog_1_method_14_code 59 = .ok (.iload_n 3, 1) := by decide +kernel
theorem d_BC_hash_60 : decode prog_1_method_14_code 60 = .ok (.iaload, 1) := by decide +kernel
theorem d_BC_hash_61 : decode prog_1_method_14_code 61 = .ok (.ireturn, 1) := by decide +kernel
def y_BC_hash : MethodName := ⟨"BootChain", "hash", "(III)I"⟩
def ws_BC_hash : List Cond := .code y_BC_hash prog_1_method_14_code 4 (some .int) :: bc_G
def f_BC_hash_c2 (fi : Int32) (co : Int32) (wd : Int32) (sl : Int32) (ms : Nat → Int32) (sc : Nat → Int32) (ch : Nat → Int32) (hh : Nat → Int32) (u1 : Int32 × (Nat → Int32)) (u2 : (Nat → Int32) × (Nat → Int32) × (Nat → Int32) × (Nat → Int32)) : Nat × Int32 × Int32 × (Nat → Int32) × (Nat → Int32) × (Nat → Int32) × (Nat → Int32) := (0, ((u2.2.2.2) (wd).toNatClampNeg), (u1.1), (u2.1), (u2.2.1), (u2.2.2.1), (u2.2.2.2))
def f_BC_hash_c1 (fi : Int32) (co : Int32) (wd : Int32) (sl : Int32) (ms : Nat → Int32) (sc : Nat → Int32) (ch : Nat → Int32) (hh : Nat → Int32) (u1 : Int32 × (Nat → Int32)) : Nat × Int32 × Int32 × (Nat → Int32) × (Nat → Int32) × (Nat → Int32) × (Nat → Int32) := f_BC_hash_c2 fi co wd sl ms sc ch hh u1 (f_SH_finish 8 (0 : Int32) (u1.1) (u1.2) sc ch hh)
def f_BC_hash_j17 (fi : Int32) (co : Int32) (wd : Int32) (sl : Int32) (ms : Nat → Int32) (sc : Nat → Int32) (ch : Nat → Int32) (hh : Nat → Int32) (y1_3 : Int32) (y2 : Nat → Int32) (y3 : Nat → Int32) (y4 : Nat → Int32) (y5 : Nat → Int32) : Nat × Int32 × Int32 × (Nat → Int32) × (Nat → Int32) × (Nat → Int32) × (Nat → Int32) := (1, 0, y1_3, y2, y3, y4, y5)
def f_BC_hash (fi : Int32) (co : Int32) (wd : Int32) (sl : Int32) (ms : Nat → Int32) (sc : Nat → Int32) (ch : Nat → Int32) (hh : Nat → Int32) : Nat × Int32 × Int32 × (Nat → Int32) × (Nat → Int32) × (Nat → Int32) × (Nat → Int32) := if co < 0 then f_BC_hash_j17 fi co wd sl ms sc ch hh sl ms sc ch hh else if (24 : Int32) < co then f_BC_hash_j17 fi co wd sl ms sc ch hh sl ms sc ch hh else if (f_BC_isHashWord wd) = 0 then f_BC_hash_j17 fi co wd sl ms sc ch hh sl ms sc ch hh else f_BC_hash_c1 fi co wd sl ms sc ch hh (f_SH_addCounting fi co (f_SH_begin sl ms sc ch) ms sc ch)
set_option maxHeartbeats 4000000 in
set_option maxRecDepth 100000 in
theorem c_BC_hash (l : Launch) (hlt : l.stackTraces = false) (dC : Nat → ClassId) (dI : Nat → Nat → Nat) (cI cJ : ClassId) (h qf qd qi qs qr qc qg qh gm gs gc : Nat) (sz : Nat) (fi : Int32) (co : Int32) (wd : Int32) (sl : Int32) (ms : Nat → Int32) (sc : Nat → Int32) (ch : Nat → Int32) (hh : Nat → Int32) : tx_Met l y_BC_hash ws_BC_hash ({ frames := 6, cells := 1, slots := 6, locals := 100 } : Room) (va_Pc [.ref h, .int fi, .int co, .int wd] (bc_pre (dC, dI) cI cJ [(h, .inr (0, [.ref qf, .ref qd, .ref qi, .ref qs, .ref qr, .ref qc, .ref qg, .ref qh])), (qs, .inr (4, [.ref gm, .ref gs, .ref gc, .int sl])), (gm, .inl (cI, 32, .inl ms)), (gs, .inl (cI, 64, .inl sc)), (gc, .inl (cI, 8, .inl ch)), (qh, .inl (cI, 8, .inl hh))] sz)) (bc_Qx (f_BC_hash fi co wd sl ms sc ch hh).1 (some (.int (f_BC_hash fi co wd sl ms sc ch hh).2.1)) (dC, dI) cI cJ (va_A [(h, .inr (0, [.ref qf, .ref qd, .ref qi, .ref qs, .ref qr, .ref qc, .ref qg, .ref qh])), (qs, .inr (4, [.ref gm, .ref gs, .ref gc, .int sl])), (gm, .inl (cI, 32, .inl ms)), (gs, .inl (cI, 64, .inl sc)), (gc, .inl (cI, 8, .inl ch)), (qh, .inl (cI, 8, .inl hh))] sz) [(h, .inr (0, [.ref qf, .ref qd, .ref qi, .ref qs, .ref qr, .ref qc, .ref qg, .ref qh])), (qs, .inr (4, [.ref gm, .ref gs, .ref gc, .int (f_BC_hash fi co wd sl ms sc ch hh).2.2.1])), (gm, .inl (cI, 32, .inl (f_BC_hash fi co wd sl ms sc ch hh).2.2.2.1)), (gs, .inl (cI, 64, .inl (f_BC_hash fi co wd sl ms sc ch hh).2.2.2.2.1)), (gc, .inl (cI, 8, .inl (f_BC_hash fi co wd sl ms sc ch hh).2.2.2.2.2.1)), (qh, .inl (cI, 8, .inl (f_BC_hash fi co wd sl ms sc ch hh).2.2.2.2.2.2))]) 1 6 (va_A [(h, .inr (0, [.ref qf, .ref qd, .ref qi, .ref qs, .ref qr, .ref qc, .ref qg, .ref qh])), (qs, .inr (4, [.ref gm, .ref gs, .ref gc, .int sl])), (gm, .inl (cI, 32, .inl ms)), (gs, .inl (cI, 64, .inl sc)), (gc, .inl (cI, 8, .inl ch)), (qh, .inl (cI, 8, .inl hh))] sz) := by
  refine tx_ofW (cc := prog_1_method_14_code) (maxL := 4) (ret := (some .int)) (by decide) rfl ?_
  intro p e s m args below meth c s₁ B hml hv
  obtain ⟨rfl, hsz, hP, hK, hD0, hE⟩ := hv
  have hx := B.exec
  have hb := B.bytes
  have hr := B.returns
  have hts : ∀ w ∈ bc_G, w.before ([.ref h, .int fi, .int co, .int wd] : List Value).toArray s = true := fun w h => atoms_spec (ws := ws_BC_hash) B.pre w (List.mem_cons_of_mem _ h)
  have hown : s.vm.findClass "BootChain" = some m.cls := findClass_of_methodNamed B.named
  have hlocks := B.notSynchronized
  subst hsz
  have hem := B.noHandlers (atoms_spec (ws := ws_BC_hash) B.pre _ List.mem_cons_self)
  have hD := hD0.self (sz := s.heap.size)
  generalize hAe : va_A [(h, .inr (0, [.ref qf, .ref qd, .ref qi, .ref qs, .ref qr, .ref qc, .ref qg, .ref qh])), (qs, .inr (4, [.ref gm, .ref gs, .ref gc, .int sl])), (gm, .inl (cI, 32, .inl ms)), (gs, .inl (cI, 64, .inl sc)), (gc, .inl (cI, 8, .inl ch)), (qh, .inl (cI, 8, .inl hh))] s.heap.size = A at hD hE ⊢
  have hA : ∀ q : Nat, s.heap.size ≤ q → A q := fun q h => by rw [← hAe]; exact Or.inr h
  have hS : va_S A s.heap s.heap [] := va_S.rf
  have jn_17 : ∀ (y1_3 : Int32) (y2 : Nat → Int32) (y3 : Nat → Int32) (y4 : Nat → Int32) (y5 : Nat → Int32) (H : Heap) (locs : List Loc) (ls : Array Slot), lv_has ls 4 [] → va_P (dC, dI) classes [(h, .inr (0, [.ref qf, .ref qd, .ref qi, .ref qs, .ref qr, .ref qc, .ref qg, .ref qh])), (qs, .inr (4, [.ref gm, .ref gs, .ref gc, .int y1_3])), (gm, .inl (cI, 32, .inl y2)), (gs, .inl (cI, 64, .inl y3)), (gc, .inl (cI, 8, .inl y4)), (qh, .inl (cI, 8, .inl y5))] H → va_D A [(h, .inr (0, [.ref qf, .ref qd, .ref qi, .ref qs, .ref qr, .ref qc, .ref qg, .ref qh])), (qs, .inr (4, [.ref gm, .ref gs, .ref gc, .int y1_3])), (gm, .inl (cI, 32, .inl y2)), (gs, .inl (cI, 64, .inl y3)), (gc, .inl (cI, 8, .inl y4)), (qh, .inl (cI, 8, .inl y5))] → va_S A s.heap H locs → W p l e (headSpec ws_BC_hash ({ frames := 6, cells := 1, slots := 6, locals := 100 } : Room)).room s m ([.ref h, .int fi, .int co, .int wd] : List Value).toArray below meth c H locs 0 0 (tx_MQ below (bc_Qx (f_BC_hash_j17 fi co wd sl ms sc ch hh y1_3 y2 y3 y4 y5).1 (some (.int (f_BC_hash_j17 fi co wd sl ms sc ch hh y1_3 y2 y3 y4 y5).2.1)) (dC, dI) cI cJ A [(h, .inr (0, [.ref qf, .ref qd, .ref qi, .ref qs, .ref qr, .ref qc, .ref qg, .ref qh])), (qs, .inr (4, [.ref gm, .ref gs, .ref gc, .int (f_BC_hash_j17 fi co wd sl ms sc ch hh y1_3 y2 y3 y4 y5).2.2.1])), (gm, .inl (cI, 32, .inl (f_BC_hash_j17 fi co wd sl ms sc ch hh y1_3 y2 y3 y4 y5).2.2.2.1)), (gs, .inl (cI, 64, .inl (f_BC_hash_j17 fi co wd sl ms sc ch hh y1_3 y2 y3 y4 y5).2.2.2.2.1)), (gc, .inl (cI, 8, .inl (f_BC_hash_j17 fi co wd sl ms sc ch hh y1_3 y2 y3 y4 y5).2.2.2.2.2.1)), (qh, .inl (cI, 8, .inl (f_BC_hash_j17 fi co wd sl ms sc ch hh y1_3 y2 y3 y4 y5).2.2.2.2.2.2))]) ([.ref h, .int fi, .int co, .int wd] : List Value).toArray s 1 6 A) (F0 m 17 ls []) := by
    intro y1_3 y2 y3 y4 y5 H locs ls hl hP hD hS
    have e0 : (f_BC_hash_j17 fi co wd sl ms sc ch hh y1_3 y2 y3 y4 y5) = (1, 0, y1_3, y2, y3, y4, y5) := by rw [f_BC_hash_j17]
    rw [e0]
    obtain ⟨sa, hstr⟩ := hE.2.2.2.1 (178, "words is not 0 .. 24, or word not 0 .. 7") (List.mem_of_getElem? (i := 10) rfl)
    exact tx_throw (own := "BootChain") (cls := "java/lang/IllegalArgumentException") (names := bc_up) (ik := 50) (is := 178) (ic := 54) (A := A) hx hb hlt hown (by decide +kernel) (by decide +kernel) (bc_tw hts hE ow_54) (hts _ gw_118) (hts _ gw_10) hE.2.2.1.1 hE.2.2.1.2 hstr hS hS.2.2 hl.1 hml hem hlocks (Nat.le_of_ble_eq_true rfl) (Nat.le_of_ble_eq_true rfl) (Nat.le_of_ble_eq_true rfl) (Nat.le_of_ble_eq_true rfl) d_BC_hash_17 d_BC_hash_20 d_BC_hash_21 d_BC_hash_23 d_BC_hash_26 (bc_thrown (by simp [bc_exc, bc_IAE, bc_ISE, bc_UOE]) hP hK hD hS)
  have hl := lv_entry ([.ref h, .int fi, .int co, .int wd]) (n := 4) (Nat.le_of_ble_eq_true rfl)
  rw [lg_entry_eq]
  generalize (lg_sl ([.ref h, .int fi, .int co, .int wd]) ++ List.replicate (4 - (lg_sl ([.ref h, .int fi, .int co, .int wd])).length) Slot.unset).toArray = ls at hl ⊢
  have hl : lv_has ls 4 [(0, .ref h), (1, .int fi), (2, .int co), (3, .int wd)] := hl
  refine lv_iload_n hx hb d_BC_hash_0 rfl (lv_at hl 2 rfl) ?_
  refine lv_if_lt (tgt := 17) hx hb d_BC_hash_1 (by decide) (fun h4 => ?_) (fun h4 => ?_)
  · have e0 : (f_BC_hash fi co wd sl ms sc ch hh) = f_BC_hash_j17 fi co wd sl ms sc ch hh sl ms sc ch hh := by rw [f_BC_hash, if_pos h4]
    rw [e0]
    exact jn_17 sl ms sc ch hh _ _ ls (lv_sub hl [] rfl) hP hD hS
  · refine lv_iload_n hx hb d_BC_hash_4 rfl (lv_at hl 2 rfl) ?_
    refine lv_bipush (v := 24) hx hb d_BC_hash_5 (by decide) ?_
    refine lv_icmp_gt (tgt := 17) hx hb d_BC_hash_7 (by decide) (fun h5 => ?_) (fun h5 => ?_)
    · have e0 : (f_BC_hash fi co wd sl ms sc ch hh) = f_BC_hash_j17 fi co wd sl ms sc ch hh sl ms sc ch hh := by rw [f_BC_hash, if_neg h4, if_pos h5]
      rw [e0]
      exact jn_17 sl ms sc ch hh _ _ ls (lv_sub hl [] rfl) hP hD hS
    · refine lv_iload_n hx hb d_BC_hash_10 rfl (lv_at hl 3 rfl) ?_
      have hPc := hP.sub (ws' := []) [] rfl
      have hDc := hD.sub (ws' := []) [] (by decide) rfl
      have hFc := va_free (wc := []) hD hS hA [] rfl
      refine va_calli (va_runS (As := [.int wd]) (rest := []) ⟨hx, hb, hml, hown, hts⟩ (c_BC_isHashWord l dC dI cI cJ _ wd) ⟨callB_of 1 hts (bc_good gw_425) rfl rfl rfl (hts _ gw_1) (hts _ gw_423) (by decide +kernel) ⟨Nat.le_of_ble_eq_true rfl, Nat.le_of_ble_eq_true rfl⟩, (hts _ gw_424)⟩ ⟨bc_blind, fun U hU hW => ⟨rfl, bc_give hPc hDc hK hE hS hFc U hU hW⟩⟩ rfl rfl hl.1 rfl (lv_room (Nat.le_of_ble_eq_true rfl)) d_BC_hash_11 ⟨Nat.le_of_ble_eq_true rfl, Nat.le_of_ble_eq_true rfl⟩) hS (fun q _ h => hFc q h) hFc (fun r u t H9 locs ht hvm hp hB hz1 hk1 hS => ?_)
      subst hp
      obtain ⟨hP, hD⟩ := va_join (wr := [(h, .inr (0, [.ref qf, .ref qd, .ref qi, .ref qs, .ref qr, .ref qc, .ref qg, .ref qh])), (qs, .inr (4, [.ref gm, .ref gs, .ref gc, .int sl])), (gm, .inl (cI, 32, .inl ms)), (gs, .inl (cI, 64, .inl sc)), (gc, .inl (cI, 8, .inl ch)), (qh, .inl (cI, 8, .inl hh))]) (w1 := []) hP hD [] [0, 1, 2, 3, 4, 5] rfl rfl (by decide) (by decide) hk1 hFc (ht ▸ hB.1) hB.2.2
      have hP := hP.sub (ws' := [(h, .inr (0, [.ref qf, .ref qd, .ref qi, .ref qs, .ref qr, .ref qc, .ref qg, .ref qh])), (qs, .inr (4, [.ref gm, .ref gs, .ref gc, .int sl])), (gm, .inl (cI, 32, .inl ms)), (gs, .inl (cI, 64, .inl sc)), (gc, .inl (cI, 8, .inl ch)), (qh, .inl (cI, 8, .inl hh))]) [0, 1, 2, 3, 4, 5] rfl
      have hD := hD.sub (ws' := [(h, .inr (0, [.ref qf, .ref qd, .ref qi, .ref qs, .ref qr, .ref qc, .ref qg, .ref qh])), (qs, .inr (4, [.ref gm, .ref gs, .ref gc, .int sl])), (gm, .inl (cI, 32, .inl ms)), (gs, .inl (cI, 64, .inl sc)), (gc, .inl (cI, 8, .inl ch)), (qh, .inl (cI, 8, .inl hh))]) [0, 1, 2, 3, 4, 5] (by decide) rfl
      generalize H9 = H at hP hS ⊢
      refine lv_if_ne (tgt := 27) hx hb d_BC_hash_14 (by decide) (fun h6 => ?_) (fun h6 => ?_)
      · refine lv_aload_n hx hb d_BC_hash_27 rfl (lv_at hl 0 rfl) ?_
        refine va_get (D := (dC, dI)) (ci := 0) (v := .ref qs) (C := R_BC) (T := F_BC) (N := 8) hx hb hts in_BC hown hK hP 0 rfl rfl 3 (by decide) (hts _ gw_68) (fun _ h9 => h9) rfl d_BC_hash_28 ?_
        have hPc := hP.sub (ws' := [(qs, .inr (4, [.ref gm, .ref gs, .ref gc, .int sl])), (gm, .inl (cI, 32, .inl ms)), (gs, .inl (cI, 64, .inl sc)), (gc, .inl (cI, 8, .inl ch))]) [1, 2, 3, 4] rfl
        have hDc := hD.sub (ws' := [(qs, .inr (4, [.ref gm, .ref gs, .ref gc, .int sl])), (gm, .inl (cI, 32, .inl ms)), (gs, .inl (cI, 64, .inl sc)), (gc, .inl (cI, 8, .inl ch))]) [1, 2, 3, 4] (by decide) rfl
        have hFc := va_free (wc := [(qs, .inr (4, [.ref gm, .ref gs, .ref gc, .int sl])), (gm, .inl (cI, 32, .inl ms)), (gs, .inl (cI, 64, .inl sc)), (gc, .inl (cI, 8, .inl ch))]) hD hS hA [1, 2, 3, 4] rfl
        refine va_callv (va_runV (As := []) (rest := []) ⟨hx, hb, hml, hown, hts⟩ (c_SH_begin l dC dI cI cJ qs gm gs gc _ sl ms sc ch) ⟨callB_of 0 hts (bc_good gw_213) rfl rfl rfl (hts _ gw_5) (hts _ gw_348) (by decide +kernel) ⟨Nat.le_of_ble_eq_true rfl, Nat.le_of_ble_eq_true rfl⟩, (hts _ gw_211), (hts _ gw_212)⟩ ⟨bc_blind, va_recv (q0 := 1) hK hP (q := (R_SH, F_SH, 4)) rfl rfl, fun U hU hW => ⟨rfl, bc_give hPc hDc hK hE hS hFc U hU hW⟩⟩ rfl rfl hl.1 rfl (lv_room (Nat.le_of_ble_eq_true rfl)) d_BC_hash_31 ⟨Nat.le_of_ble_eq_true rfl, Nat.le_of_ble_eq_true rfl⟩) hS (fun q _ h => hFc q h) hFc (fun u t H9 locs ht hvm hp hB hz1 hk1 hS => ?_)
        obtain ⟨hP, hD⟩ := va_join (wr := [(h, .inr (0, [.ref qf, .ref qd, .ref qi, .ref qs, .ref qr, .ref qc, .ref qg, .ref qh])), (qh, .inl (cI, 8, .inl hh))]) (w1 := [(qs, .inr (4, [.ref gm, .ref gs, .ref gc, .int (f_SH_begin sl ms sc ch)])), (gm, .inl (cI, 32, .inl ms)), (gs, .inl (cI, 64, .inl sc)), (gc, .inl (cI, 8, .inl ch))]) hP hD [1, 2, 3, 4] [0, 5] rfl rfl (by decide) (by decide) hk1 hFc (ht ▸ hB.1) hB.2.2
        have hP := hP.sub (ws' := [(h, .inr (0, [.ref qf, .ref qd, .ref qi, .ref qs, .ref qr, .ref qc, .ref qg, .ref qh])), (qs, .inr (4, [.ref gm, .ref gs, .ref gc, .int (f_SH_begin sl ms sc ch)])), (gm, .inl (cI, 32, .inl ms)), (gs, .inl (cI, 64, .inl sc)), (gc, .inl (cI, 8, .inl ch)), (qh, .inl (cI, 8, .inl hh))]) [0, 2, 3, 4, 5, 1] rfl
        have hD := hD.sub (ws' := [(h, .inr (0, [.ref qf, .ref qd, .ref qi, .ref qs, .ref qr, .ref qc, .ref qg, .ref qh])), (qs, .inr (4, [.ref gm, .ref gs, .ref gc, .int (f_SH_begin sl ms sc ch)])), (gm, .inl (cI, 32, .inl ms)), (gs, .inl (cI, 64, .inl sc)), (gc, .inl (cI, 8, .inl ch)), (qh, .inl (cI, 8, .inl hh))]) [0, 2, 3, 4, 5, 1] (by decide) rfl
        generalize H9 = H at hP hS ⊢
        refine lv_aload_n hx hb d_BC_hash_34 rfl (lv_at hl 0 rfl) ?_
        refine va_get (D := (dC, dI)) (ci := 0) (v := .ref qs) (C := R_BC) (T := F_BC) (N := 8) hx hb hts in_BC hown hK hP 0 rfl rfl 3 (by decide) (hts _ gw_68) (fun _ h9 => h9) rfl d_BC_hash_35 ?_
        refine lv_iload_n hx hb d_BC_hash_38 rfl (lv_at hl 1 rfl) ?_
        refine lv_iload_n hx hb d_BC_hash_39 rfl (lv_at hl 2 rfl) ?_
        have hPc := hP.sub (ws' := [(qs, .inr (4, [.ref gm, .ref gs, .ref gc, .int (f_SH_begin sl ms sc ch)])), (gm, .inl (cI, 32, .inl ms)), (gs, .inl (cI, 64, .inl sc)), (gc, .inl (cI, 8, .inl ch))]) [1, 2, 3, 4] rfl
        have hDc := hD.sub (ws' := [(qs, .inr (4, [.ref gm, .ref gs, .ref gc, .int (f_SH_begin sl ms sc ch)])), (gm, .inl (cI, 32, .inl ms)), (gs, .inl (cI, 64, .inl sc)), (gc, .inl (cI, 8, .inl ch))]) [1, 2, 3, 4] (by decide) rfl
        have hFc := va_free (wc := [(qs, .inr (4, [.ref gm, .ref gs, .ref gc, .int (f_SH_begin sl ms sc ch)])), (gm, .inl (cI, 32, .inl ms)), (gs, .inl (cI, 64, .inl sc)), (gc, .inl (cI, 8, .inl ch))]) hD hS hA [1, 2, 3, 4] rfl
        refine va_callv (va_runV (As := [.int fi, .int co]) (rest := []) ⟨hx, hb, hml, hown, hts⟩ (c_SH_addCounting l dC dI cI cJ qs gm gs gc _ fi co (f_SH_begin sl ms sc ch) ms sc ch b24) ⟨callB_of 2 hts (bc_good gw_217) rfl rfl rfl (hts _ gw_5) (hts _ gw_432) (by decide +kernel) ⟨Nat.le_of_ble_eq_true rfl, Nat.le_of_ble_eq_true rfl⟩, (hts _ gw_215), (hts _ gw_216)⟩ ⟨bc_blind, va_recv (q0 := 1) hK hP (q := (R_SH, F_SH, 4)) rfl rfl, fun U hU hW => ⟨rfl, bc_give hPc hDc hK hE hS hFc U hU hW⟩⟩ rfl rfl hl.1 rfl (lv_room (Nat.le_of_ble_eq_true rfl)) d_BC_hash_40 ⟨Nat.le_of_ble_eq_true rfl, Nat.le_of_ble_eq_true rfl⟩) hS (fun q _ h => hFc q h) hFc (fun u t H9 locs ht hvm hp hB hz1 hk1 hS => ?_)
        obtain ⟨hP, hD⟩ := va_join (wr := [(h, .inr (0, [.ref qf, .ref qd, .ref qi, .ref qs, .ref qr, .ref qc, .ref qg, .ref qh])), (qh, .inl (cI, 8, .inl hh))]) (w1 := [(qs, .inr (4, [.ref gm, .ref gs, .ref gc, .int ((f_SH_addCounting fi co (f_SH_begin sl ms sc ch) ms sc ch).1)])), (gm, .inl (cI, 32, .inl ((f_SH_addCounting fi co (f_SH_begin sl ms sc ch) ms sc ch).2))), (gs, .inl (cI, 64, .inl sc)), (gc, .inl (cI, 8, .inl ch))]) hP hD [1, 2, 3, 4] [0, 5] rfl rfl (by decide) (by decide) hk1 hFc (ht ▸ hB.1) hB.2.2
        have hP := hP.sub (ws' := [(h, .inr (0, [.ref qf, .ref qd, .ref qi, .ref qs, .ref qr, .ref qc, .ref qg, .ref qh])), (qs, .inr (4, [.ref gm, .ref gs, .ref gc, .int ((f_SH_addCounting fi co (f_SH_begin sl ms sc ch) ms sc ch).1)])), (gm, .inl (cI, 32, .inl ((f_SH_addCounting fi co (f_SH_begin sl ms sc ch) ms sc ch).2))), (gs, .inl (cI, 64, .inl sc)), (gc, .inl (cI, 8, .inl ch)), (qh, .inl (cI, 8, .inl hh))]) [0, 2, 3, 4, 5, 1] rfl
        have hD := hD.sub (ws' := [(h, .inr (0, [.ref qf, .ref qd, .ref qi, .ref qs, .ref qr, .ref qc, .ref qg, .ref qh])), (qs, .inr (4, [.ref gm, .ref gs, .ref gc, .int ((f_SH_addCounting fi co (f_SH_begin sl ms sc ch) ms sc ch).1)])), (gm, .inl (cI, 32, .inl ((f_SH_addCounting fi co (f_SH_begin sl ms sc ch) ms sc ch).2))), (gs, .inl (cI, 64, .inl sc)), (gc, .inl (cI, 8, .inl ch)), (qh, .inl (cI, 8, .inl hh))]) [0, 2, 3, 4, 5, 1] (by decide) rfl
        generalize H9 = H at hP hS ⊢
        have e0 : (f_BC_hash fi co wd sl ms sc ch hh) = f_BC_hash_c1 fi co wd sl ms sc ch hh (f_SH_addCounting fi co (f_SH_begin sl ms sc ch) ms sc ch) := by rw [f_BC_hash, if_neg h4, if_neg h5, if_neg h6]
        rw [e0]
        generalize hu1 : (f_SH_addCounting fi co (f_SH_begin sl ms sc ch) ms sc ch) = u1 at hP hD ⊢
        have hP : va_P (dC, dI) classes [(h, .inr (0, [.ref qf, .ref qd, .ref qi, .ref qs, .ref qr, .ref qc, .ref qg, .ref qh])), (qs, .inr (4, [.ref gm, .ref gs, .ref gc, .int (u1.1)])), (gm, .inl (cI, 32, .inl (u1.2))), (gs, .inl (cI, 64, .inl sc)), (gc, .inl (cI, 8, .inl ch)), (qh, .inl (cI, 8, .inl hh))] H := hP
        have hD : va_D A [(h, .inr (0, [.ref qf, .ref qd, .ref qi, .ref qs, .ref qr, .ref qc, .ref qg, .ref qh])), (qs, .inr (4, [.ref gm, .ref gs, .ref gc, .int (u1.1)])), (gm, .inl (cI, 32, .inl (u1.2))), (gs, .inl (cI, 64, .inl sc)), (gc, .inl (cI, 8, .inl ch)), (qh, .inl (cI, 8, .inl hh))] := hD
        refine lv_aload_n hx hb d_BC_hash_43 rfl (lv_at hl 0 rfl) ?_
        refine va_get (D := (dC, dI)) (ci := 0) (v := .ref qs) (C := R_BC) (T := F_BC) (N := 8) hx hb hts in_BC hown hK hP 0 rfl rfl 3 (by decide) (hts _ gw_68) (fun _ h9 => h9) rfl d_BC_hash_44 ?_
        refine lv_aload_n hx hb d_BC_hash_47 rfl (lv_at hl 0 rfl) ?_
        refine va_get (D := (dC, dI)) (ci := 0) (v := .ref qh) (C := R_BC) (T := F_BC) (N := 8) hx hb hts in_BC hown hK hP 0 rfl rfl 7 (by decide) (hts _ gw_72) (fun _ h9 => h9) rfl d_BC_hash_48 ?_
        refine lv_iconst (v := 0) hx hb d_BC_hash_51 (by decide) ?_
        have hPc := hP.sub (ws' := [(qs, .inr (4, [.ref gm, .ref gs, .ref gc, .int (u1.1)])), (gm, .inl (cI, 32, .inl (u1.2))), (gs, .inl (cI, 64, .inl sc)), (gc, .inl (cI, 8, .inl ch)), (qh, .inl (cI, 8, .inl hh))]) [1, 2, 3, 4, 5] rfl
        have hDc := hD.sub (ws' := [(qs, .inr (4, [.ref gm, .ref gs, .ref gc, .int (u1.1)])), (gm, .inl (cI, 32, .inl (u1.2))), (gs, .inl (cI, 64, .inl sc)), (gc, .inl (cI, 8, .inl ch)), (qh, .inl (cI, 8, .inl hh))]) [1, 2, 3, 4, 5] (by decide) rfl
        have hFc := va_free (wc := [(qs, .inr (4, [.ref gm, .ref gs, .ref gc, .int (u1.1)])), (gm, .inl (cI, 32, .inl (u1.2))), (gs, .inl (cI, 64, .inl sc)), (gc, .inl (cI, 8, .inl ch)), (qh, .inl (cI, 8, .inl hh))]) hD hS hA [1, 2, 3, 4, 5] rfl
        refine va_callv (va_runV (As := [.ref qh, .int (0 : Int32)]) (rest := []) ⟨hx, hb, hml, hown, hts⟩ (c_SH_finish l dC dI cI cJ qs qh gm gs gc _ 8 (0 : Int32) (u1.1) (u1.2) sc ch hh (by rw [← hu1]; exact p_cnt _ _ _ _ _ _ b24) (fun x h0 h1 => ix_off 0 8 8 h0 h1 rfl (by decide) (by decide))) ⟨callB_of 2 hts (bc_good gw_229) rfl rfl rfl (hts _ gw_5) (hts _ gw_350) (by decide +kernel) ⟨Nat.le_of_ble_eq_true rfl, Nat.le_of_ble_eq_true rfl⟩, (hts _ gw_227), (hts _ gw_228)⟩ ⟨bc_blind, va_recv (q0 := 1) hK hP (q := (R_SH, F_SH, 4)) rfl rfl, fun U hU hW => ⟨rfl, bc_give hPc hDc hK hE hS hFc U hU hW⟩⟩ rfl rfl hl.1 rfl (lv_room (Nat.le_of_ble_eq_true rfl)) d_BC_hash_52 ⟨Nat.le_of_ble_eq_true rfl, Nat.le_of_ble_eq_true rfl⟩) hS (fun q _ h => hFc q h) hFc (fun u t H9 locs ht hvm hp hB hz1 hk1 hS => ?_)
        obtain ⟨hP, hD⟩ := va_join (wr := [(h, .inr (0, [.ref qf, .ref qd, .ref qi, .ref qs, .ref qr, .ref qc, .ref qg, .ref qh]))]) (w1 := [(qs, .inr (4, [.ref gm, .ref gs, .ref gc, .int (u1.1)])), (gm, .inl (cI, 32, .inl ((f_SH_finish 8 (0 : Int32) (u1.1) (u1.2) sc ch hh).1))), (gs, .inl (cI, 64, .inl ((f_SH_finish 8 (0 : Int32) (u1.1) (u1.2) sc ch hh).2.1))), (gc, .inl (cI, 8, .inl ((f_SH_finish 8 (0 : Int32) (u1.1) (u1.2) sc ch hh).2.2.1))), (qh, .inl (cI, 8, .inl ((f_SH_finish 8 (0 : Int32) (u1.1) (u1.2) sc ch hh).2.2.2)))]) hP hD [1, 2, 3, 4, 5] [0] rfl rfl (by decide) (by decide) hk1 hFc (ht ▸ hB.1) hB.2.2
        have hP := hP.sub (ws' := [(h, .inr (0, [.ref qf, .ref qd, .ref qi, .ref qs, .ref qr, .ref qc, .ref qg, .ref qh])), (qs, .inr (4, [.ref gm, .ref gs, .ref gc, .int (u1.1)])), (gm, .inl (cI, 32, .inl ((f_SH_finish 8 (0 : Int32) (u1.1) (u1.2) sc ch hh).1))), (gs, .inl (cI, 64, .inl ((f_SH_finish 8 (0 : Int32) (u1.1) (u1.2) sc ch hh).2.1))), (gc, .inl (cI, 8, .inl ((f_SH_finish 8 (0 : Int32) (u1.1) (u1.2) sc ch hh).2.2.1))), (qh, .inl (cI, 8, .inl ((f_SH_finish 8 (0 : Int32) (u1.1) (u1.2) sc ch hh).2.2.2)))]) [0, 1, 2, 3, 4, 5] rfl
        have hD := hD.sub (ws' := [(h, .inr (0, [.ref qf, .ref qd, .ref qi, .ref qs, .ref qr, .ref qc, .ref qg, .ref qh])), (qs, .inr (4, [.ref gm, .ref gs, .ref gc, .int (u1.1)])), (gm, .inl (cI, 32, .inl ((f_SH_finish 8 (0 : Int32) (u1.1) (u1.2) sc ch hh).1))), (gs, .inl (cI, 64, .inl ((f_SH_finish 8 (0 : Int32) (u1.1) (u1.2) sc ch hh).2.1))), (gc, .inl (cI, 8, .inl ((f_SH_finish 8 (0 : Int32) (u1.1) (u1.2) sc ch hh).2.2.1))), (qh, .inl (cI, 8, .inl ((f_SH_finish 8 (0 : Int32) (u1.1) (u1.2) sc ch hh).2.2.2)))]) [0, 1, 2, 3, 4, 5] (by decide) rfl
        generalize H9 = H at hP hS ⊢
        have e0 : (f_BC_hash_c1 fi co wd sl ms sc ch hh u1) = f_BC_hash_c2 fi co wd sl ms sc ch hh u1 (f_SH_finish 8 (0 : Int32) (u1.1) (u1.2) sc ch hh) := by rw [f_BC_hash_c1]
        rw [e0]
        generalize hu2 : (f_SH_finish 8 (0 : Int32) (u1.1) (u1.2) sc ch hh) = u2 at hP hD ⊢
        have hP : va_P (dC, dI) classes [(h, .inr (0, [.ref qf, .ref qd, .ref qi, .ref qs, .ref qr, .ref qc, .ref qg, .ref qh])), (qs, .inr (4, [.ref gm, .ref gs, .ref gc, .int (u1.1)])), (gm, .inl (cI, 32, .inl (u2.1))), (gs, .inl (cI, 64, .inl (u2.2.1))), (gc, .inl (cI, 8, .inl (u2.2.2.1))), (qh, .inl (cI, 8, .inl (u2.2.2.2)))] H := hP
        have hD : va_D A [(h, .inr (0, [.ref qf, .ref qd, .ref qi, .ref qs, .ref qr, .ref qc, .ref qg, .ref qh])), (qs, .inr (4, [.ref gm, .ref gs, .ref gc, .int (u1.1)])), (gm, .inl (cI, 32, .inl (u2.1))), (gs, .inl (cI, 64, .inl (u2.2.1))), (gc, .inl (cI, 8, .inl (u2.2.2.1))), (qh, .inl (cI, 8, .inl (u2.2.2.2)))] := hD
        refine lv_aload_n hx hb d_BC_hash_55 rfl (lv_at hl 0 rfl) ?_
        refine va_get (D := (dC, dI)) (ci := 0) (v := .ref qh) (C := R_BC) (T := F_BC) (N := 8) hx hb hts in_BC hown hK hP 0 rfl rfl 7 (by decide) (hts _ gw_72) (fun _ h9 => h9) rfl d_BC_hash_56 ?_
        refine lv_iload_n hx hb d_BC_hash_59 rfl (lv_at hl 3 rfl) ?_
        refine va_iald hx hb hK hP 5 0 rfl rfl (by exact ix_hw (hw_ok (by assumption))) d_BC_hash_60 ?_
        have e0 : (f_BC_hash_c2 fi co wd sl ms sc ch hh u1 u2) = (0, ((u2.2.2.2) (wd).toNatClampNeg), (u1.1), (u2.1), (u2.2.1), (u2.2.2.1), (u2.2.2.2)) := by rw [f_BC_hash_c2]
        rw [e0]
        refine W.widen (k := 1) (n := 6) (Nat.zero_le _) (Nat.zero_le _) ?_
        exact tx_mono (fun _ h => tx_ofMQ h) (W.iret (v := ((u2.2.2.2) (wd).toNatClampNeg)) hx hb hr (fun t ht hW => ⟨Or.inl ⟨rfl, rfl⟩, ⟨by rw [ht]; exact hP, va_K.moved hW.alike hK, hD⟩, hS.F ht⟩) hS.2.2 d_BC_hash_61)
      · have e0 : (f_BC_hash fi co wd sl ms sc ch hh) = f_BC_hash_j17 fi co wd sl ms sc ch hh sl ms sc ch hh := by rw [f_BC_hash, if_neg h4, if_neg h5, if_pos h6]
        rw [e0]
        exact jn_17 sl ms sc ch hh _ _ ls (lv_sub hl [] rfl) hP hD hS
-- BC_quote
theorem d_BC_quote_0 : decode prog_1_method_13_code 0 = .ok (.iload_n 2, 1) := by decide +kernel
theorem d_BC_quote_1 : decode prog_1_method_13_code 1 = .ok (.invokestatic 154, 3) := by decide +kernel
theorem d_BC_quote_4 : decode prog_1_method_13_code 4 = .ok (.ifCond .ne 13, 3) := by decide +kernel
theorem d_BC_quote_7 : decode prog_1_method_13_code 7 = .ok (.new 50, 3) := by decide +kernel
theorem d_BC_quote_10 : decode prog_1_method_13_code 10 = .ok (.dup, 1) := by decide +kernel
theorem d_BC_quote_11 : decode prog_1_method_13_code 11 = .ok (.ldc 159, 2) := by decide +kernel
theorem d_BC_quote_13 : decode prog_1_method_13_code 13 = .ok (.invokespecial 54, 3) := by decide +kernel
theorem d_BC_quote_16 : decode prog_1_method_13_code 16 = .ok (.athrow, 1) := by decide +kernel
theorem d_BC_quote_17 : decode prog_1_method_13_code 17 = .ok (.aload_n 0, 1) := by decide +kernel
theorem d_BC_quote_18 : decode prog_1_method_13_code 18 = .ok (.invokevirtual 125, 3) := by decide +kernel
theorem d_BC_quote_21 : decode prog_1_method_13_code 21 = .ok (.ifCond .ne 13, 3) := by decide +kernel
theorem d_BC_quote_24 : decode prog_1_method_13_code 24 = .ok (.new 61, 3) := by decide +kernel
theorem d_BC_quote_27 : decode prog_1_method_13_code 27 = .ok (.dup, 1) := by decide +kernel
theorem d_BC_quote_28 : decode prog_1_method_13_code 28 = .ok (.ldc 129, 2) := by decide +kernel
theorem d_BC_quote_30 : decode prog_1_method_13_code 30 = .ok (.invokespecial 65, 3) := by decide +kernel
theorem d_BC_quote_33 : decode prog_1_method_13_code 33 = .ok (.athrow, 1) := by decide +kernel
theorem d_BC_quote_34 : decode prog_1_method_13_code 34 = .ok (.aload_n 0, 1) := by decide +kernel
theorem d_BC_quote_35 : decode prog_1_method_13_code 35 = .ok (.getfield 33, 3) := by decide +kernel
theorem d_BC_quote_38 : decode prog_1_method_13_code 38 = .ok (.invokevirtual 161, 3) := by decide +kernel
theorem d_BC_quote_41 : decode prog_1_method_13_code 41 = .ok (.aload_n 0, 1) := by decide +kernel
theorem d_BC_quote_42 : decode prog_1_method_13_code 42 = .ok (.getfield 33, 3) := by decide +kernel
theorem d_BC_quote_45 : decode prog_1_method_13_code 45 = .ok (.bipush 9, 2) := by decide +kernel
theorem d_BC_quote_47 : decode prog_1_method_13_code 47 = .ok (.iconst 4, 1) := by decide +kernel
theorem d_BC_quote_48 : decode prog_1_method_13_code 48 = .ok (.invokevirtual 164, 3) := by decide +kernel
theorem d_BC_quote_51 : decode prog_1_method_13_code 51 = .ok (.aload_n 0, 1) := by decide +kernel
theorem d_BC_quote_52 : decode prog_1_method_13_code 52 = .ok (.getfield 33, 3) := by decide +kernel
theorem d_BC_quote_55 : decode prog_1_method_13_code 55 = .ok (.aload_n 0, 1) := by decide +kernel
theorem d_BC_quote_56 : decode prog_1_method_13_code 56 = .ok (.getfield 44, 3) := by decide +kernel
theorem d_BC_quote_59 : decode prog_1_method_13_code 59 = .ok (.iconst 0, 1) := by decide +kernel
theorem d_BC_quote_60 : decode prog_1_method_13_code 60 = .ok (.bipush 16, 2) := by decide +kernel
theorem d_BC_quote_62 : decode prog_1_method_13_code 62 = .ok (.invokevirtual 167, 3) := by decide +kernel
theorem d_BC_quote_65 : decode prog_1_method_13_code 65 = .ok (.aload_n 0, 1) := by decide +kernel
theorem d_BC_quote_66 : decode prog_1_method_13_code 66 = .ok (.getfield 33, 3) := by decide +kernel
theorem d_BC_quote_69 : decode prog_1_method_13_code 69 = .ok (.iload_n 1, 1) := by decide +kernel
theorem d_BC_quote_70 : decode prog_1_method_13_code 70 = .ok (.invokevirtual 171, 3) := by decide +kernel
theorem d_BC_quote_73 : decode prog_1_method_13_code 73 = .ok (.aload_n 0, 1) := by decide +kernel
theorem d_BC_quote_74 : decode prog_1_method_13_code 74 = .ok (.getfield 33, 3) := by decide +kernel
theorem d_BC_quote_77 : decode prog_1_method_13_code 77 = .ok (.aload_n 0, 1) := by decide +kernel
theorem d_BC_quote_78 : decode prog_1_method_13_code 78 = .ok (.getfield 47, 3) := by decide +kernel
theorem d_BC_quote_81 : decode prog_1_method_13_code 81 = .ok (.iconst 0, 1) := by decide +kernel
theorem d_BC_quote_82 : decode prog_1_method_13_code 82 = .ok (.invokevirtual 174, 3) := by decide +kernel
theorem d_BC_quote_85 : decode prog_1_method_13_code 85 = .ok (.aload_n 0, 1) := by decide +kernel
theorem d_BC_quote_86 : decode prog_1_method_13_code 86 = .ok (.getfield 47, 3) := by decide +kernel
theorem d_BC_quote_89 : decode prog_1_method_13_code 89 = .ok (.iload_n 2, 1) := by decide +kernel
theorem d_BC_quote_90 : decode prog_1_method_13_code 90 = .ok (.iaload, 1) := by decide +kernel
theorem d_BC_quote_91 : decode prog_1_method_13_code 91 = .ok (.ireturn, 1) := by decide +kernel
def y_BC_quote : MethodName := ⟨"BootChain", "quote", "(II)I"⟩
def ws_BC_quote : List Cond := .code y_BC_quote prog_1_method_13_code 3 (some .int) :: bc_G
def f_BC_quote_c4 (no : Int32) (wd : Int32) (sl : Int32) (ms : Nat → Int32) (sc : Nat → Int32) (ch : Nat → Int32) (ru : Nat → Int32) (rg : Nat → Int32) (hh : Nat → Int32) (u1 : Int32 × (Nat → Int32)) (u2 : Int32 × (Nat → Int32)) (u3 : Int32 × (Nat → Int32)) (u4 : (Nat → Int32) × (Nat → Int32) × (Nat → Int32) × (Nat → Int32)) : Nat × Int32 × Int32 × (Nat → Int32) × (Nat → Int32) × (Nat → Int32) × (Nat → Int32) := (0, ((u4.2.2.2) (wd).toNatClampNeg), (u3.1), (u4.1), (u4.2.1), (u4.2.2.1), (u4.2.2.2))
def f_BC_quote_c3 (no : Int32) (wd : Int32) (sl : Int32) (ms : Nat → Int32) (sc : Nat → Int32) (ch : Nat → Int32) (ru : Nat → Int32) (rg : Nat → Int32) (hh : Nat → Int32) (u1 : Int32 × (Nat → Int32)) (u2 : Int32 × (Nat → Int32)) (u3 : Int32 × (Nat → Int32)) : Nat × Int32 × Int32 × (Nat → Int32) × (Nat → Int32) × (Nat → Int32) × (Nat → Int32) := f_BC_quote_c4 no wd sl ms sc ch ru rg hh u1 u2 u3 (f_SH_finish 8 (0 : Int32) (u3.1) (u3.2) sc ch hh)
def f_BC_quote_c2 (no : Int32) (wd : Int32) (sl : Int32) (ms : Nat → Int32) (sc : Nat → Int32) (ch : Nat → Int32) (ru : Nat → Int32) (rg : Nat → Int32) (hh : Nat → Int32) (u1 : Int32 × (Nat → Int32)) (u2 : Int32 × (Nat → Int32)) : Nat × Int32 × Int32 × (Nat → Int32) × (Nat → Int32) × (Nat → Int32) × (Nat → Int32) := f_BC_quote_c3 no wd sl ms sc ch ru rg hh u1 u2 (f_SH_add no (u2.1) (u2.2) sc ch)
def f_BC_quote_c1 (no : Int32) (wd : Int32) (sl : Int32) (ms : Nat → Int32) (sc : Nat → Int32) (ch : Nat → Int32) (ru : Nat → Int32) (rg : Nat → Int32) (hh : Nat → Int32) (u1 : Int32 × (Nat → Int32)) : Nat × Int32 × Int32 × (Nat → Int32) × (Nat → Int32) × (Nat → Int32) × (Nat → Int32) := f_BC_quote_c2 no wd sl ms sc ch ru rg hh u1 (f_SH_addRow 16 (0 : Int32) (16 : Int32) (u1.1) (u1.2) sc ch rg)
def f_BC_quote (no : Int32) (wd : Int32) (sl : Int32) (ms : Nat → Int32) (sc : Nat → Int32) (ch : Nat → Int32) (ru : Nat → Int32) (rg : Nat → Int32) (hh : Nat → Int32) : Nat × Int32 × Int32 × (Nat → Int32) × (Nat → Int32) × (Nat → Int32) × (Nat → Int32) := if (f_BC_isHashWord wd) = 0 then (1, 0, sl, ms, sc, ch, hh) else if (f_BC_bothStagesRun ru) = 0 then (2, 0, sl, ms, sc, ch, hh) else f_BC_quote_c1 no wd sl ms sc ch ru rg hh (f_SH_addCounting (9 : Int32) (4 : Int32) (f_SH_begin sl ms sc ch) ms sc ch)
set_option maxHeartbeats 4000000 in
set_option maxRecDepth 100000 in
theorem c_BC_quote (l : Launch) (hlt : l.stackTraces = false) (dC : Nat → ClassId) (dI : Nat → Nat → Nat) (cI cJ : ClassId) (h qf qd qi qs qr qc qg qh gm gs gc : Nat) (sz : Nat) (no : Int32) (wd : Int32) (sl : Int32) (ms : Nat → Int32) (sc : Nat → Int32) (ch : Nat → Int32) (ru : Nat → Int32) (rg : Nat → Int32) (hh : Nat → Int32) : tx_Met l y_BC_quote ws_BC_quote ({ frames := 6, cells := 1, slots := 6, locals := 100 } : Room) (va_Pc [.ref h, .int no, .int wd] (bc_pre (dC, dI) cI cJ [(h, .inr (0, [.ref qf, .ref qd, .ref qi, .ref qs, .ref qr, .ref qc, .ref qg, .ref qh])), (qs, .inr (4, [.ref gm, .ref gs, .ref gc, .int sl])), (gm, .inl (cI, 32, .inl ms)), (gs, .inl (cI, 64, .inl sc)), (gc, .inl (cI, 8, .inl ch)), (qr, .inl (cI, 2, .inl ru)), (qg, .inl (cI, 16, .inl rg)), (qh, .inl (cI, 8, .inl hh))] sz)) (bc_Qx (f_BC_quote no wd sl ms sc ch ru rg hh).1 (some (.int (f_BC_quote no wd sl ms sc ch ru rg hh).2.1)) (dC, dI) cI cJ (va_A [(h, .inr (0, [.ref qf, .ref qd, .ref qi, .ref qs, .ref qr, .ref qc, .ref qg, .ref qh])), (qs, .inr (4, [.ref gm, .ref gs, .ref gc, .int sl])), (gm, .inl (cI, 32, .inl ms)), (gs, .inl (cI, 64, .inl sc)), (gc, .inl (cI, 8, .inl ch)), (qr, .inl (cI, 2, .inl ru)), (qg, .inl (cI, 16, .inl rg)), (qh, .inl (cI, 8, .inl hh))] sz) [(h, .inr (0, [.ref qf, .ref qd, .ref qi, .ref qs, .ref qr, .ref qc, .ref qg, .ref qh])), (qs, .inr (4, [.ref gm, .ref gs, .ref gc, .int (f_BC_quote no wd sl ms sc ch ru rg hh).2.2.1])), (gm, .inl (cI, 32, .inl (f_BC_quote no wd sl ms sc ch ru rg hh).2.2.2.1)), (gs, .inl (cI, 64, .inl (f_BC_quote no wd sl ms sc ch ru rg hh).2.2.2.2.1)), (gc, .inl (cI, 8, .inl (f_BC_quote no wd sl ms sc ch ru rg hh).2.2.2.2.2.1)), (qr, .inl (cI, 2, .inl ru)), (qg, .inl (cI, 16, .inl rg)), (qh, .inl (cI, 8, .inl (f_BC_quote no wd sl ms sc ch ru rg hh).2.2.2.2.2.2))]) 1 6 (va_A [(h, .inr (0, [.ref qf, .ref qd, .ref qi, .ref qs, .ref qr, .ref qc, .ref qg, .ref qh])), (qs, .inr (4, [.ref gm, .ref gs, .ref gc, .int sl])), (gm, .inl (cI, 32, .inl ms)), (gs, .inl (cI, 64, .inl sc)), (gc, .inl (cI, 8, .inl ch)), (qr, .inl (cI, 2, .inl ru)), (qg, .inl (cI, 16, .inl rg)), (qh, .inl (cI, 8, .inl hh))] sz) := by
  refine tx_ofW (cc := prog_1_method_13_code) (maxL := 3) (ret := (some .int)) (by decide) rfl ?_
  intro p e s m args below meth c s₁ B hml hv
  obtain ⟨rfl, hsz, hP, hK, hD0, hE⟩ := hv
  have hx := B.exec
  have hb := B.bytes
  have hr := B.returns
  have hts : ∀ w ∈ bc_G, w.before ([.ref h, .int no, .int wd] : List Value).toArray s = true := fun w h => atoms_spec (ws := ws_BC_quote) B.pre w (List.mem_cons_of_mem _ h)
  have hown : s.vm.findClass "BootChain" = some m.cls := findClass_of_methodNamed B.named
  have hlocks := B.notSynchronized
  subst hsz
  have hem := B.noHandlers (atoms_spec (ws := ws_BC_quote) B.pre _ List.mem_cons_self)
  have hD := hD0.self (sz := s.heap.size)
  generalize hAe : va_A [(h, .inr (0, [.ref qf, .ref qd, .ref qi, .ref qs, .ref qr, .ref qc, .ref qg, .ref qh])), (qs, .inr (4, [.ref gm, .ref gs, .ref gc, .int sl])), (gm, .inl (cI, 32, .inl ms)), (gs, .inl (cI, 64, .inl sc)), (gc, .inl (cI, 8, .inl ch)), (qr, .inl (cI, 2, .inl ru)), (qg, .inl (cI, 16, .inl rg)), (qh, .inl (cI, 8, .inl hh))] s.heap.size = A at hD hE ⊢
  have hA : ∀ q : Nat, s.heap.size ≤ q → A q := fun q h => by rw [← hAe]; exact Or.inr h
  have hS : va_S A s.heap s.heap [] := va_S.rf
  have hl := lv_entry ([.ref h, .int no, .int wd]) (n := 3) (Nat.le_of_ble_eq_true rfl)
  rw [lg_entry_eq]
  generalize (lg_sl ([.ref h, .int no, .int wd]) ++ List.replicate (3 - (lg_sl ([.ref h, .int no, .int wd])).length) Slot.unset).toArray = ls at hl ⊢
  have hl : lv_has ls 3 [(0, .ref h), (1, .int no), (2, .int wd)] := hl
  refine lv_iload_n hx hb d_BC_quote_0 rfl (lv_at hl 2 rfl) ?_
  have hPc := hP.sub (ws' := []) [] rfl
  have hDc := hD.sub (ws' := []) [] (by decide) rfl
  have hFc := va_free (wc := []) hD hS hA [] rfl
  refine va_calli (va_runS (As := [.int wd]) (rest := []) ⟨hx, hb, hml, hown, hts⟩ (c_BC_isHashWord l dC dI cI cJ _ wd) ⟨callB_of 1 hts (bc_good gw_425) rfl rfl rfl (hts _ gw_1) (hts _ gw_423) (by decide +kernel) ⟨Nat.le_of_ble_eq_true rfl, Nat.le_of_ble_eq_true rfl⟩, (hts _ gw_424)⟩ ⟨bc_blind, fun U hU hW => ⟨rfl, bc_give hPc hDc hK hE hS hFc U hU hW⟩⟩ rfl rfl hl.1 rfl (lv_room (Nat.le_of_ble_eq_true rfl)) d_BC_quote_1 ⟨Nat.le_of_ble_eq_true rfl, Nat.le_of_ble_eq_true rfl⟩) hS (fun q _ h => hFc q h) hFc (fun r u t H9 locs ht hvm hp hB hz1 hk1 hS => ?_)
  subst hp
  obtain ⟨hP, hD⟩ := va_join (wr := [(h, .inr (0, [.ref qf, .ref qd, .ref qi, .ref qs, .ref qr, .ref qc, .ref qg, .ref qh])), (qs, .inr (4, [.ref gm, .ref gs, .ref gc, .int sl])), (gm, .inl (cI, 32, .inl ms)), (gs, .inl (cI, 64, .inl sc)), (gc, .inl (cI, 8, .inl ch)), (qr, .inl (cI, 2, .inl ru)), (qg, .inl (cI, 16, .inl rg)), (qh, .inl (cI, 8, .inl hh))]) (w1 := []) hP hD [] [0, 1, 2, 3, 4, 5, 6, 7] rfl rfl (by decide) (by decide) hk1 hFc (ht ▸ hB.1) hB.2.2
  have hP := hP.sub (ws' := [(h, .inr (0, [.ref qf, .ref qd, .ref qi, .ref qs, .ref qr, .ref qc, .ref qg, .ref qh])), (qs, .inr (4, [.ref gm, .ref gs, .ref gc, .int sl])), (gm, .inl (cI, 32, .inl ms)), (gs, .inl (cI, 64, .inl sc)), (gc, .inl (cI, 8, .inl ch)), (qr, .inl (cI, 2, .inl ru)), (qg, .inl (cI, 16, .inl rg)), (qh, .inl (cI, 8, .inl hh))]) [0, 1, 2, 3, 4, 5, 6, 7] rfl
  have hD := hD.sub (ws' := [(h, .inr (0, [.ref qf, .ref qd, .ref qi, .ref qs, .ref qr, .ref qc, .ref qg, .ref qh])), (qs, .inr (4, [.ref gm, .ref gs, .ref gc, .int sl])), (gm, .inl (cI, 32, .inl ms)), (gs, .inl (cI, 64, .inl sc)), (gc, .inl (cI, 8, .inl ch)), (qr, .inl (cI, 2, .inl ru)), (qg, .inl (cI, 16, .inl rg)), (qh, .inl (cI, 8, .inl hh))]) [0, 1, 2, 3, 4, 5, 6, 7] (by decide) rfl
  generalize H9 = H at hP hS ⊢
  refine lv_if_ne (tgt := 17) hx hb d_BC_quote_4 (by decide) (fun h3 => ?_) (fun h3 => ?_)
  · refine lv_aload_n hx hb d_BC_quote_17 rfl (lv_at hl 0 rfl) ?_
    have hPc := hP.sub (ws' := [(h, .inr (0, [.ref qf, .ref qd, .ref qi, .ref qs, .ref qr, .ref qc, .ref qg, .ref qh])), (qr, .inl (cI, 2, .inl ru))]) [0, 5] rfl
    have hDc := hD.sub (ws' := [(h, .inr (0, [.ref qf, .ref qd, .ref qi, .ref qs, .ref qr, .ref qc, .ref qg, .ref qh])), (qr, .inl (cI, 2, .inl ru))]) [0, 5] (by decide) rfl
    have hFc := va_free (wc := [(h, .inr (0, [.ref qf, .ref qd, .ref qi, .ref qs, .ref qr, .ref qc, .ref qg, .ref qh])), (qr, .inl (cI, 2, .inl ru))]) hD hS hA [0, 5] rfl
    refine va_calli (va_runV (As := []) (rest := []) ⟨hx, hb, hml, hown, hts⟩ (c_BC_bothStagesRun l dC dI cI cJ h qf qd qi qs qr qc qg qh _ ru) ⟨callB_of 0 hts (bc_good gw_360) rfl rfl rfl (hts _ gw_1) (hts _ gw_358) (by decide +kernel) ⟨Nat.le_of_ble_eq_true rfl, Nat.le_of_ble_eq_true rfl⟩, (hts _ gw_359), (hts _ gw_703)⟩ ⟨bc_blind, va_recv (q0 := 0) hK hP (q := (R_BC, F_BC, 8)) rfl rfl, fun U hU hW => ⟨rfl, bc_give hPc hDc hK hE hS hFc U hU hW⟩⟩ rfl rfl hl.1 rfl (lv_room (Nat.le_of_ble_eq_true rfl)) d_BC_quote_18 ⟨Nat.le_of_ble_eq_true rfl, Nat.le_of_ble_eq_true rfl⟩) hS (fun q _ h => hFc q h) hFc (fun r u t H9 locs ht hvm hp hB hz1 hk1 hS => ?_)
    subst hp
    obtain ⟨hP, hD⟩ := va_join (wr := [(qs, .inr (4, [.ref gm, .ref gs, .ref gc, .int sl])), (gm, .inl (cI, 32, .inl ms)), (gs, .inl (cI, 64, .inl sc)), (gc, .inl (cI, 8, .inl ch)), (qg, .inl (cI, 16, .inl rg)), (qh, .inl (cI, 8, .inl hh))]) (w1 := [(h, .inr (0, [.ref qf, .ref qd, .ref qi, .ref qs, .ref qr, .ref qc, .ref qg, .ref qh])), (qr, .inl (cI, 2, .inl ru))]) hP hD [0, 5] [1, 2, 3, 4, 6, 7] rfl rfl (by decide) (by decide) hk1 hFc (ht ▸ hB.1) hB.2.2
    have hP := hP.sub (ws' := [(h, .inr (0, [.ref qf, .ref qd, .ref qi, .ref qs, .ref qr, .ref qc, .ref qg, .ref qh])), (qs, .inr (4, [.ref gm, .ref gs, .ref gc, .int sl])), (gm, .inl (cI, 32, .inl ms)), (gs, .inl (cI, 64, .inl sc)), (gc, .inl (cI, 8, .inl ch)), (qr, .inl (cI, 2, .inl ru)), (qg, .inl (cI, 16, .inl rg)), (qh, .inl (cI, 8, .inl hh))]) [6, 0, 1, 2, 3, 7, 4, 5] rfl
    have hD := hD.sub (ws' := [(h, .inr (0, [.ref qf, .ref qd, .ref qi, .ref qs, .ref qr, .ref qc, .ref qg, .ref qh])), (qs, .inr (4, [.ref gm, .ref gs, .ref gc, .int sl])), (gm, .inl (cI, 32, .inl ms)), (gs, .inl (cI, 64, .inl sc)), (gc, .inl (cI, 8, .inl ch)), (qr, .inl (cI, 2, .inl ru)), (qg, .inl (cI, 16, .inl rg)), (qh, .inl (cI, 8, .inl hh))]) [6, 0, 1, 2, 3, 7, 4, 5] (by decide) rfl
    generalize H9 = H at hP hS ⊢
    refine lv_if_ne (tgt := 34) hx hb d_BC_quote_21 (by decide) (fun h4 => ?_) (fun h4 => ?_)
    · refine lv_aload_n hx hb d_BC_quote_34 rfl (lv_at hl 0 rfl) ?_
      refine va_get (D := (dC, dI)) (ci := 0) (v := .ref qs) (C := R_BC) (T := F_BC) (N := 8) hx hb hts in_BC hown hK hP 0 rfl rfl 3 (by decide) (hts _ gw_68) (fun _ h9 => h9) rfl d_BC_quote_35 ?_
      have hPc := hP.sub (ws' := [(qs, .inr (4, [.ref gm, .ref gs, .ref gc, .int sl])), (gm, .inl (cI, 32, .inl ms)), (gs, .inl (cI, 64, .inl sc)), (gc, .inl (cI, 8, .inl ch))]) [1, 2, 3, 4] rfl
      have hDc := hD.sub (ws' := [(qs, .inr (4, [.ref gm, .ref gs, .ref gc, .int sl])), (gm, .inl (cI, 32, .inl ms)), (gs, .inl (cI, 64, .inl sc)), (gc, .inl (cI, 8, .inl ch))]) [1, 2, 3, 4] (by decide) rfl
      have hFc := va_free (wc := [(qs, .inr (4, [.ref gm, .ref gs, .ref gc, .int sl])), (gm, .inl (cI, 32, .inl ms)), (gs, .inl (cI, 64, .inl sc)), (gc, .inl (cI, 8, .inl ch))]) hD hS hA [1, 2, 3, 4] rfl
      refine va_callv (va_runV (As := []) (rest := []) ⟨hx, hb, hml, hown, hts⟩ (c_SH_begin l dC dI cI cJ qs gm gs gc _ sl ms sc ch) ⟨callB_of 0 hts (bc_good gw_213) rfl rfl rfl (hts _ gw_5) (hts _ gw_348) (by decide +kernel) ⟨Nat.le_of_ble_eq_true rfl, Nat.le_of_ble_eq_true rfl⟩, (hts _ gw_211), (hts _ gw_212)⟩ ⟨bc_blind, va_recv (q0 := 1) hK hP (q := (R_SH, F_SH, 4)) rfl rfl, fun U hU hW => ⟨rfl, bc_give hPc hDc hK hE hS hFc U hU hW⟩⟩ rfl rfl hl.1 rfl (lv_room (Nat.le_of_ble_eq_true rfl)) d_BC_quote_38 ⟨Nat.le_of_ble_eq_true rfl, Nat.le_of_ble_eq_true rfl⟩) hS (fun q _ h => hFc q h) hFc (fun u t H9 locs ht hvm hp hB hz1 hk1 hS => ?_)
      obtain ⟨hP, hD⟩ := va_join (wr := [(h, .inr (0, [.ref qf, .ref qd, .ref qi, .ref qs, .ref qr, .ref qc, .ref qg, .ref qh])), (qr, .inl (cI, 2, .inl ru)), (qg, .inl (cI, 16, .inl rg)), (qh, .inl (cI, 8, .inl hh))]) (w1 := [(qs, .inr (4, [.ref gm, .ref gs, .ref gc, .int (f_SH_begin sl ms sc ch)])), (gm, .inl (cI, 32, .inl ms)), (gs, .inl (cI, 64, .inl sc)), (gc, .inl (cI, 8, .inl ch))]) hP hD [1, 2, 3, 4] [0, 5, 6, 7] rfl rfl (by decide) (by decide) hk1 hFc (ht ▸ hB.1) hB.2.2
      have hP := hP.sub (ws' := [(h, .inr (0, [.ref qf, .ref qd, .ref qi, .ref qs, .ref qr, .ref qc, .ref qg, .ref qh])), (qs, .inr (4, [.ref gm, .ref gs, .ref gc, .int (f_SH_begin sl ms sc ch)])), (gm, .inl (cI, 32, .inl ms)), (gs, .inl (cI, 64, .inl sc)), (gc, .inl (cI, 8, .inl ch)), (qr, .inl (cI, 2, .inl ru)), (qg, .inl (cI, 16, .inl rg)), (qh, .inl (cI, 8, .inl hh))]) [0, 4, 5, 6, 7, 1, 2, 3] rfl
      have hD := hD.sub (ws' := [(h, .inr (0, [.ref qf, .ref qd, .ref qi, .ref qs, .ref qr, .ref qc, .ref qg, .ref qh])), (qs, .inr (4, [.ref gm, .ref gs, .ref gc, .int (f_SH_begin sl ms sc ch)])), (gm, .inl (cI, 32, .inl ms)), (gs, .inl (cI, 64, .inl sc)), (gc, .inl (cI, 8, .inl ch)), (qr, .inl (cI, 2, .inl ru)), (qg, .inl (cI, 16, .inl rg)), (qh, .inl (cI, 8, .inl hh))]) [0, 4, 5, 6, 7, 1, 2, 3] (by decide) rfl
      generalize H9 = H at hP hS ⊢
      refine lv_aload_n hx hb d_BC_quote_41 rfl (lv_at hl 0 rfl) ?_
      refine va_get (D := (dC, dI)) (ci := 0) (v := .ref qs) (C := R_BC) (T := F_BC) (N := 8) hx hb hts in_BC hown hK hP 0 rfl rfl 3 (by decide) (hts _ gw_68) (fun _ h9 => h9) rfl d_BC_quote_42 ?_
      refine lv_bipush (v := 9) hx hb d_BC_quote_45 (by decide) ?_
      refine lv_iconst (v := 4) hx hb d_BC_quote_47 (by decide) ?_
      have hPc := hP.sub (ws' := [(qs, .inr (4, [.ref gm, .ref gs, .ref gc, .int (f_SH_begin sl ms sc ch)])), (gm, .inl (cI, 32, .inl ms)), (gs, .inl (cI, 64, .inl sc)), (gc, .inl (cI, 8, .inl ch))]) [1, 2, 3, 4] rfl
      have hDc := hD.sub (ws' := [(qs, .inr (4, [.ref gm, .ref gs, .ref gc, .int (f_SH_begin sl ms sc ch)])), (gm, .inl (cI, 32, .inl ms)), (gs, .inl (cI, 64, .inl sc)), (gc, .inl (cI, 8, .inl ch))]) [1, 2, 3, 4] (by decide) rfl
      have hFc := va_free (wc := [(qs, .inr (4, [.ref gm, .ref gs, .ref gc, .int (f_SH_begin sl ms sc ch)])), (gm, .inl (cI, 32, .inl ms)), (gs, .inl (cI, 64, .inl sc)), (gc, .inl (cI, 8, .inl ch))]) hD hS hA [1, 2, 3, 4] rfl
      refine va_callv (va_runV (As := [.int (9 : Int32), .int (4 : Int32)]) (rest := []) ⟨hx, hb, hml, hown, hts⟩ (c_SH_addCounting l dC dI cI cJ qs gm gs gc _ (9 : Int32) (4 : Int32) (f_SH_begin sl ms sc ch) ms sc ch b24) ⟨callB_of 2 hts (bc_good gw_217) rfl rfl rfl (hts _ gw_5) (hts _ gw_432) (by decide +kernel) ⟨Nat.le_of_ble_eq_true rfl, Nat.le_of_ble_eq_true rfl⟩, (hts _ gw_215), (hts _ gw_216)⟩ ⟨bc_blind, va_recv (q0 := 1) hK hP (q := (R_SH, F_SH, 4)) rfl rfl, fun U hU hW => ⟨rfl, bc_give hPc hDc hK hE hS hFc U hU hW⟩⟩ rfl rfl hl.1 rfl (lv_room (Nat.le_of_ble_eq_true rfl)) d_BC_quote_48 ⟨Nat.le_of_ble_eq_true rfl, Nat.le_of_ble_eq_true rfl⟩) hS (fun q _ h => hFc q h) hFc (fun u t H9 locs ht hvm hp hB hz1 hk1 hS => ?_)
      obtain ⟨hP, hD⟩ := va_join (wr := [(h, .inr (0, [.ref qf, .ref qd, .ref qi, .ref qs, .ref qr, .ref qc, .ref qg, .ref qh])), (qr, .inl (cI, 2, .inl ru)), (qg, .inl (cI, 16, .inl rg)), (qh, .inl (cI, 8, .inl hh))]) (w1 := [(qs, .inr (4, [.ref gm, .ref gs, .ref gc, .int ((f_SH_addCounting (9 : Int32) (4 : Int32) (f_SH_begin sl ms sc ch) ms sc ch).1)])), (gm, .inl (cI, 32, .inl ((f_SH_addCounting (9 : Int32) (4 : Int32) (f_SH_begin sl ms sc ch) ms sc ch).2))), (gs, .inl (cI, 64, .inl sc)), (gc, .inl (cI, 8, .inl ch))]) hP hD [1, 2, 3, 4] [0, 5, 6, 7] rfl rfl (by decide) (by decide) hk1 hFc (ht ▸ hB.1) hB.2.2
      have hP := hP.sub (ws' := [(h, .inr (0, [.ref qf, .ref qd, .ref qi, .ref qs, .ref qr, .ref qc, .ref qg, .ref qh])), (qs, .inr (4, [.ref gm, .ref gs, .ref gc, .int ((f_SH_addCounting (9 : Int32) (4 : Int32) (f_SH_begin sl ms sc ch) ms sc ch).1)])), (gm, .inl (cI, 32, .inl ((f_SH_addCounting (9 : Int32) (4 : Int32) (f_SH_begin sl ms sc ch) ms sc ch).2))), (gs, .inl (cI, 64, .inl sc)), (gc, .inl (cI, 8, .inl ch)), (qr, .inl (cI, 2, .inl ru)), (qg, .inl (cI, 16, .inl rg)), (qh, .inl (cI, 8, .inl hh))]) [0, 4, 5, 6, 7, 1, 2, 3] rfl
      have hD := hD.sub (ws' := [(h, .inr (0, [.ref qf, .ref qd, .ref qi, .ref qs, .ref qr, .ref qc, .ref qg, .ref qh])), (qs, .inr (4, [.ref gm, .ref gs, .ref gc, .int ((f_SH_addCounting (9 : Int32) (4 : Int32) (f_SH_begin sl ms sc ch) ms sc ch).1)])), (gm, .inl (cI, 32, .inl ((f_SH_addCounting (9 : Int32) (4 : Int32) (f_SH_begin sl ms sc ch) ms sc ch).2))), (gs, .inl (cI, 64, .inl sc)), (gc, .inl (cI, 8, .inl ch)), (qr, .inl (cI, 2, .inl ru)), (qg, .inl (cI, 16, .inl rg)), (qh, .inl (cI, 8, .inl hh))]) [0, 4, 5, 6, 7, 1, 2, 3] (by decide) rfl
      generalize H9 = H at hP hS ⊢
      have e0 : (f_BC_quote no wd sl ms sc ch ru rg hh) = f_BC_quote_c1 no wd sl ms sc ch ru rg hh (f_SH_addCounting (9 : Int32) (4 : Int32) (f_SH_begin sl ms sc ch) ms sc ch) := by rw [f_BC_quote, if_neg h3, if_neg h4]
      rw [e0]
      generalize hu1 : (f_SH_addCounting (9 : Int32) (4 : Int32) (f_SH_begin sl ms sc ch) ms sc ch) = u1 at hP hD ⊢
      have hP : va_P (dC, dI) classes [(h, .inr (0, [.ref qf, .ref qd, .ref qi, .ref qs, .ref qr, .ref qc, .ref qg, .ref qh])), (qs, .inr (4, [.ref gm, .ref gs, .ref gc, .int (u1.1)])), (gm, .inl (cI, 32, .inl (u1.2))), (gs, .inl (cI, 64, .inl sc)), (gc, .inl (cI, 8, .inl ch)), (qr, .inl (cI, 2, .inl ru)), (qg, .inl (cI, 16, .inl rg)), (qh, .inl (cI, 8, .inl hh))] H := hP
      have hD : va_D A [(h, .inr (0, [.ref qf, .ref qd, .ref qi, .ref qs, .ref qr, .ref qc, .ref qg, .ref qh])), (qs, .inr (4, [.ref gm, .ref gs, .ref gc, .int (u1.1)])), (gm, .inl (cI, 32, .inl (u1.2))), (gs, .inl (cI, 64, .inl sc)), (gc, .inl (cI, 8, .inl ch)), (qr, .inl (cI, 2, .inl ru)), (qg, .inl (cI, 16, .inl rg)), (qh, .inl (cI, 8, .inl hh))] := hD
      refine lv_aload_n hx hb d_BC_quote_51 rfl (lv_at hl 0 rfl) ?_
      refine va_get (D := (dC, dI)) (ci := 0) (v := .ref qs) (C := R_BC) (T := F_BC) (N := 8) hx hb hts in_BC hown hK hP 0 rfl rfl 3 (by decide) (hts _ gw_68) (fun _ h9 => h9) rfl d_BC_quote_52 ?_
      refine lv_aload_n hx hb d_BC_quote_55 rfl (lv_at hl 0 rfl) ?_
      refine va_get (D := (dC, dI)) (ci := 0) (v := .ref qg) (C := R_BC) (T := F_BC) (N := 8) hx hb hts in_BC hown hK hP 0 rfl rfl 6 (by decide) (hts _ gw_71) (fun _ h9 => h9) rfl d_BC_quote_56 ?_
      refine lv_iconst (v := 0) hx hb d_BC_quote_59 (by decide) ?_
      refine lv_bipush (v := 16) hx hb d_BC_quote_60 (by decide) ?_
      have hPc := hP.sub (ws' := [(qs, .inr (4, [.ref gm, .ref gs, .ref gc, .int (u1.1)])), (gm, .inl (cI, 32, .inl (u1.2))), (gs, .inl (cI, 64, .inl sc)), (gc, .inl (cI, 8, .inl ch)), (qg, .inl (cI, 16, .inl rg))]) [1, 2, 3, 4, 6] rfl
      have hDc := hD.sub (ws' := [(qs, .inr (4, [.ref gm, .ref gs, .ref gc, .int (u1.1)])), (gm, .inl (cI, 32, .inl (u1.2))), (gs, .inl (cI, 64, .inl sc)), (gc, .inl (cI, 8, .inl ch)), (qg, .inl (cI, 16, .inl rg))]) [1, 2, 3, 4, 6] (by decide) rfl
      have hFc := va_free (wc := [(qs, .inr (4, [.ref gm, .ref gs, .ref gc, .int (u1.1)])), (gm, .inl (cI, 32, .inl (u1.2))), (gs, .inl (cI, 64, .inl sc)), (gc, .inl (cI, 8, .inl ch)), (qg, .inl (cI, 16, .inl rg))]) hD hS hA [1, 2, 3, 4, 6] rfl
      refine va_callv (va_runV (As := [.ref qg, .int (0 : Int32), .int (16 : Int32)]) (rest := []) ⟨hx, hb, hml, hown, hts⟩ (c_SH_addRow l dC dI cI cJ qs qg gm gs gc _ 16 (0 : Int32) (16 : Int32) (u1.1) (u1.2) sc ch rg (by rw [← hu1]; exact p_cnt _ _ _ _ _ _ b24) (fun x h0 h1 => ix_off 0 16 16 h0 h1 rfl (by decide) (by decide))) ⟨callB_of 3 hts (bc_good gw_225) rfl rfl rfl (hts _ gw_5) (hts _ gw_349) (by decide +kernel) ⟨Nat.le_of_ble_eq_true rfl, Nat.le_of_ble_eq_true rfl⟩, (hts _ gw_223), (hts _ gw_224)⟩ ⟨bc_blind, va_recv (q0 := 1) hK hP (q := (R_SH, F_SH, 4)) rfl rfl, fun U hU hW => ⟨rfl, bc_give hPc hDc hK hE hS hFc U hU hW⟩⟩ rfl rfl hl.1 rfl (lv_room (Nat.le_of_ble_eq_true rfl)) d_BC_quote_62 ⟨Nat.le_of_ble_eq_true rfl, Nat.le_of_ble_eq_true rfl⟩) hS (fun q _ h => hFc q h) hFc (fun u t H9 locs ht hvm hp hB hz1 hk1 hS => ?_)
      obtain ⟨hP, hD⟩ := va_join (wr := [(h, .inr (0, [.ref qf, .ref qd, .ref qi, .ref qs, .ref qr, .ref qc, .ref qg, .ref qh])), (qr, .inl (cI, 2, .inl ru)), (qh, .inl (cI, 8, .inl hh))]) (w1 := [(qs, .inr (4, [.ref gm, .ref gs, .ref gc, .int ((f_SH_addRow 16 (0 : Int32) (16 : Int32) (u1.1) (u1.2) sc ch rg).1)])), (gm, .inl (cI, 32, .inl ((f_SH_addRow 16 (0 : Int32) (16 : Int32) (u1.1) (u1.2) sc ch rg).2))), (gs, .inl (cI, 64, .inl sc)), (gc, .inl (cI, 8, .inl ch)), (qg, .inl (cI, 16, .inl rg))]) hP hD [1, 2, 3, 4, 6] [0, 5, 7] rfl rfl (by decide) (by decide) hk1 hFc (ht ▸ hB.1) hB.2.2
      have hP := hP.sub (ws' := [(h, .inr (0, [.ref qf, .ref qd, .ref qi, .ref qs, .ref qr, .ref qc, .ref qg, .ref qh])), (qs, .inr (4, [.ref gm, .ref gs, .ref gc, .int ((f_SH_addRow 16 (0 : Int32) (16 : Int32) (u1.1) (u1.2) sc ch rg).1)])), (gm, .inl (cI, 32, .inl ((f_SH_addRow 16 (0 : Int32) (16 : Int32) (u1.1) (u1.2) sc ch rg).2))), (gs, .inl (cI, 64, .inl sc)), (gc, .inl (cI, 8, .inl ch)), (qr, .inl (cI, 2, .inl ru)), (qg, .inl (cI, 16, .inl rg)), (qh, .inl (cI, 8, .inl hh))]) [0, 3, 4, 5, 6, 1, 7, 2] rfl
      have hD := hD.sub (ws' := [(h, .inr (0, [.ref qf, .ref qd, .ref qi, .ref qs, .ref qr, .ref qc, .ref qg, .ref qh])), (qs, .inr (4, [.ref gm, .ref gs, .ref gc, .int ((f_SH_addRow 16 (0 : Int32) (16 : Int32) (u1.1) (u1.2) sc ch rg).1)])), (gm, .inl (cI, 32, .inl ((f_SH_addRow 16 (0 : Int32) (16 : Int32) (u1.1) (u1.2) sc ch rg).2))), (gs, .inl (cI, 64, .inl sc)), (gc, .inl (cI, 8, .inl ch)), (qr, .inl (cI, 2, .inl ru)), (qg, .inl (cI, 16, .inl rg)), (qh, .inl (cI, 8, .inl hh))]) [0, 3, 4, 5, 6, 1, 7, 2] (by decide) rfl
      generalize H9 = H at hP hS ⊢
      have e0 : (f_BC_quote_c1 no wd sl ms sc ch ru rg hh u1) = f_BC_quote_c2 no wd sl ms sc ch ru rg hh u1 (f_SH_addRow 16 (0 : Int32) (16 : Int32) (u1.1) (u1.2) sc ch rg) := by rw [f_BC_quote_c1]
      rw [e0]
      generalize hu2 : (f_SH_addRow 16 (0 : Int32) (16 : Int32) (u1.1) (u1.2) sc ch rg) = u2 at hP hD ⊢
      have hP : va_P (dC, dI) classes [(h, .inr (0, [.ref qf, .ref qd, .ref qi, .ref qs, .ref qr, .ref qc, .ref qg, .ref qh])), (qs, .inr (4, [.ref gm, .ref gs, .ref gc, .int (u2.1)])), (gm, .inl (cI, 32, .inl (u2.2))), (gs, .inl (cI, 64, .inl sc)), (gc, .inl (cI, 8, .inl ch)), (qr, .inl (cI, 2, .inl ru)), (qg, .inl (cI, 16, .inl rg)), (qh, .inl (cI, 8, .inl hh))] H := hP
      have hD : va_D A [(h, .inr (0, [.ref qf, .ref qd, .ref qi, .ref qs, .ref qr, .ref qc, .ref qg, .ref qh])), (qs, .inr (4, [.ref gm, .ref gs, .ref gc, .int (u2.1)])), (gm, .inl (cI, 32, .inl (u2.2))), (gs, .inl (cI, 64, .inl sc)), (gc, .inl (cI, 8, .inl ch)), (qr, .inl (cI, 2, .inl ru)), (qg, .inl (cI, 16, .inl rg)), (qh, .inl (cI, 8, .inl hh))] := hD
      refine lv_aload_n hx hb d_BC_quote_65 rfl (lv_at hl 0 rfl) ?_
      refine va_get (D := (dC, dI)) (ci := 0) (v := .ref qs) (C := R_BC) (T := F_BC) (N := 8) hx hb hts in_BC hown hK hP 0 rfl rfl 3 (by decide) (hts _ gw_68) (fun _ h9 => h9) rfl d_BC_quote_66 ?_
      refine lv_iload_n hx hb d_BC_quote_69 rfl (lv_at hl 1 rfl) ?_
      have hPc := hP.sub (ws' := [(qs, .inr (4, [.ref gm, .ref gs, .ref gc, .int (u2.1)])), (gm, .inl (cI, 32, .inl (u2.2))), (gs, .inl (cI, 64, .inl sc)), (gc, .inl (cI, 8, .inl ch))]) [1, 2, 3, 4] rfl
      have hDc := hD.sub (ws' := [(qs, .inr (4, [.ref gm, .ref gs, .ref gc, .int (u2.1)])), (gm, .inl (cI, 32, .inl (u2.2))), (gs, .inl (cI, 64, .inl sc)), (gc, .inl (cI, 8, .inl ch))]) [1, 2, 3, 4] (by decide) rfl
      have hFc := va_free (wc := [(qs, .inr (4, [.ref gm, .ref gs, .ref gc, .int (u2.1)])), (gm, .inl (cI, 32, .inl (u2.2))), (gs, .inl (cI, 64, .inl sc)), (gc, .inl (cI, 8, .inl ch))]) hD hS hA [1, 2, 3, 4] rfl
      refine va_callv (va_runV (As := [.int no]) (rest := []) ⟨hx, hb, hml, hown, hts⟩ (c_SH_add l dC dI cI cJ qs gm gs gc _ no (u2.1) (u2.2) sc ch (by rw [← hu2]; exact (p_row _ _ _ _ _ _ _ _ (by rw [← hu1]; exact p_cnt _ _ _ _ _ _ b24)).1)) ⟨callB_of 1 hts (bc_good gw_221) rfl rfl rfl (hts _ gw_5) (hts _ gw_433) (by decide +kernel) ⟨Nat.le_of_ble_eq_true rfl, Nat.le_of_ble_eq_true rfl⟩, (hts _ gw_219), (hts _ gw_220)⟩ ⟨bc_blind, va_recv (q0 := 1) hK hP (q := (R_SH, F_SH, 4)) rfl rfl, fun U hU hW => ⟨rfl, bc_give hPc hDc hK hE hS hFc U hU hW⟩⟩ rfl rfl hl.1 rfl (lv_room (Nat.le_of_ble_eq_true rfl)) d_BC_quote_70 ⟨Nat.le_of_ble_eq_true rfl, Nat.le_of_ble_eq_true rfl⟩) hS (fun q _ h => hFc q h) hFc (fun u t H9 locs ht hvm hp hB hz1 hk1 hS => ?_)
      obtain ⟨hP, hD⟩ := va_join (wr := [(h, .inr (0, [.ref qf, .ref qd, .ref qi, .ref qs, .ref qr, .ref qc, .ref qg, .ref qh])), (qr, .inl (cI, 2, .inl ru)), (qg, .inl (cI, 16, .inl rg)), (qh, .inl (cI, 8, .inl hh))]) (w1 := [(qs, .inr (4, [.ref gm, .ref gs, .ref gc, .int ((f_SH_add no (u2.1) (u2.2) sc ch).1)])), (gm, .inl (cI, 32, .inl ((f_SH_add no (u2.1) (u2.2) sc ch).2))), (gs, .inl (cI, 64, .inl sc)), (gc, .inl (cI, 8, .inl ch))]) hP hD [1, 2, 3, 4] [0, 5, 6, 7] rfl rfl (by decide) (by decide) hk1 hFc (ht ▸ hB.1) hB.2.2
      have hP := hP.sub (ws' := [(h, .inr (0, [.ref qf, .ref qd, .ref qi, .ref qs, .ref qr, .ref qc, .ref qg, .ref qh])), (qs, .inr (4, [.ref gm, .ref gs, .ref gc, .int ((f_SH_add no (u2.1) (u2.2) sc ch).1)])), (gm, .inl (cI, 32, .inl ((f_SH_add no (u2.1) (u2.2) sc ch).2))), (gs, .inl (cI, 64, .inl sc)), (gc, .inl (cI, 8, .inl ch)), (qr, .inl (cI, 2, .inl ru)), (qg, .inl (cI, 16, .inl rg)), (qh, .inl (cI, 8, .inl hh))]) [0, 4, 5, 6, 7, 1, 2, 3] rfl
      have hD := hD.sub (ws' := [(h, .inr (0, [.ref qf, .ref qd, .ref qi, .ref qs, .ref qr, .ref qc, .ref qg, .ref qh])), (qs, .inr (4, [.ref gm, .ref gs, .ref gc, .int ((f_SH_add no (u2.1) (u2.2) sc ch).1)])), (gm, .inl (cI, 32, .inl ((f_SH_add no (u2.1) (u2.2) sc ch).2))), (gs, .inl (cI, 64, .inl sc)), (gc, .inl (cI, 8, .inl ch)), (qr, .inl (cI, 2, .inl ru)), (qg, .inl (cI, 16, .inl rg)), (qh, .inl (cI, 8, .inl hh))]) [0, 4, 5, 6, 7, 1, 2, 3] (by decide) rfl
      generalize H9 = H at hP hS ⊢
      have e0 : (f_BC_quote_c2 no wd sl ms sc ch ru rg hh u1 u2) = f_BC_quote_c3 no wd sl ms sc ch ru rg hh u1 u2 (f_SH_add no (u2.1) (u2.2) sc ch) := by rw [f_BC_quote_c2]
      rw [e0]
      generalize hu3 : (f_SH_add no (u2.1) (u2.2) sc ch) = u3 at hP hD ⊢
      have hP : va_P (dC, dI) classes [(h, .inr (0, [.ref qf, .ref qd, .ref qi, .ref qs, .ref qr, .ref qc, .ref qg, .ref qh])), (qs, .inr (4, [.ref gm, .ref gs, .ref gc, .int (u3.1)])), (gm, .inl (cI, 32, .inl (u3.2))), (gs, .inl (cI, 64, .inl sc)), (gc, .inl (cI, 8, .inl ch)), (qr, .inl (cI, 2, .inl ru)), (qg, .inl (cI, 16, .inl rg)), (qh, .inl (cI, 8, .inl hh))] H := hP
      have hD : va_D A [(h, .inr (0, [.ref qf, .ref qd, .ref qi, .ref qs, .ref qr, .ref qc, .ref qg, .ref qh])), (qs, .inr (4, [.ref gm, .ref gs, .ref gc, .int (u3.1)])), (gm, .inl (cI, 32, .inl (u3.2))), (gs, .inl (cI, 64, .inl sc)), (gc, .inl (cI, 8, .inl ch)), (qr, .inl (cI, 2, .inl ru)), (qg, .inl (cI, 16, .inl rg)), (qh, .inl (cI, 8, .inl hh))] := hD
      refine lv_aload_n hx hb d_BC_quote_73 rfl (lv_at hl 0 rfl) ?_
      refine va_get (D := (dC, dI)) (ci := 0) (v := .ref qs) (C := R_BC) (T := F_BC) (N := 8) hx hb hts in_BC hown hK hP 0 rfl rfl 3 (by decide) (hts _ gw_68) (fun _ h9 => h9) rfl d_BC_quote_74 ?_
      refine lv_aload_n hx hb d_BC_quote_77 rfl (lv_at hl 0 rfl) ?_
      refine va_get (D := (dC, dI)) (ci := 0) (v := .ref qh) (C := R_BC) (T := F_BC) (N := 8) hx hb hts in_BC hown hK hP 0 rfl rfl 7 (by decide) (hts _ gw_72) (fun _ h9 => h9) rfl d_BC_quote_78 ?_
      refine lv_iconst (v := 0) hx hb d_BC_quote_81 (by decide) ?_
      have hPc := hP.sub (ws' := [(qs, .inr (4, [.ref gm, .ref gs, .ref gc, .int (u3.1)])), (gm, .inl (cI, 32, .inl (u3.2))), (gs, .inl (cI, 64, .inl sc)), (gc, .inl (cI, 8, .inl ch)), (qh, .inl (cI, 8, .inl hh))]) [1, 2, 3, 4, 7] rfl
      have hDc := hD.sub (ws' := [(qs, .inr (4, [.ref gm, .ref gs, .ref gc, .int (u3.1)])), (gm, .inl (cI, 32, .inl (u3.2))), (gs, .inl (cI, 64, .inl sc)), (gc, .inl (cI, 8, .inl ch)), (qh, .inl (cI, 8, .inl hh))]) [1, 2, 3, 4, 7] (by decide) rfl
      have hFc := va_free (wc := [(qs, .inr (4, [.ref gm, .ref gs, .ref gc, .int (u3.1)])), (gm, .inl (cI, 32, .inl (u3.2))), (gs, .inl (cI, 64, .inl sc)), (gc, .inl (cI, 8, .inl ch)), (qh, .inl (cI, 8, .inl hh))]) hD hS hA [1, 2, 3, 4, 7] rfl
      refine va_callv (va_runV (As := [.ref qh, .int (0 : Int32)]) (rest := []) ⟨hx, hb, hml, hown, hts⟩ (c_SH_finish l dC dI cI cJ qs qh gm gs gc _ 8 (0 : Int32) (u3.1) (u3.2) sc ch hh (by rw [← hu3]; exact p_add24 _ _ _ _ _ (by rw [← hu2]; exact p_row _ _ _ _ _ _ _ _ (by rw [← hu1]; exact p_cnt _ _ _ _ _ _ b24))) (fun x h0 h1 => ix_off 0 8 8 h0 h1 rfl (by decide) (by decide))) ⟨callB_of 2 hts (bc_good gw_229) rfl rfl rfl (hts _ gw_5) (hts _ gw_350) (by decide +kernel) ⟨Nat.le_of_ble_eq_true rfl, Nat.le_of_ble_eq_true rfl⟩, (hts _ gw_227), (hts _ gw_228)⟩ ⟨bc_blind, va_recv (q0 := 1) hK hP (q := (R_SH, F_SH, 4)) rfl rfl, fun U hU hW => ⟨rfl, bc_give hPc hDc hK hE hS hFc U hU hW⟩⟩ rfl rfl hl.1 rfl (lv_room (Nat.le_of_ble_eq_true rfl)) d_BC_quote_82 ⟨Nat.le_of_ble_eq_true rfl, Nat.le_of_ble_eq_true rfl⟩) hS (fun q _ h => hFc q h) hFc (fun u t H9 locs ht hvm hp hB hz1 hk1 hS => ?_)
      obtain ⟨hP, hD⟩ := va_join (wr := [(h, .inr (0, [.ref qf, .ref qd, .ref qi, .ref qs, .ref qr, .ref qc, .ref qg, .ref qh])), (qr, .inl (cI, 2, .inl ru)), (qg, .inl (cI, 16, .inl rg))]) (w1 := [(qs, .inr (4, [.ref gm, .ref gs, .ref gc, .int (u3.1)])), (gm, .inl (cI, 32, .inl ((f_SH_finish 8 (0 : Int32) (u3.1) (u3.2) sc ch hh).1))), (gs, .inl (cI, 64, .inl ((f_SH_finish 8 (0 : Int32) (u3.1) (u3.2) sc ch hh).2.1))), (gc, .inl (cI, 8, .inl ((f_SH_finish 8 (0 : Int32) (u3.1) (u3.2) sc ch hh).2.2.1))), (qh, .inl (cI, 8, .inl ((f_SH_finish 8 (0 : Int32) (u3.1) (u3.2) sc ch hh).2.2.2)))]) hP hD [1, 2, 3, 4, 7] [0, 5, 6] rfl rfl (by decide) (by decide) hk1 hFc (ht ▸ hB.1) hB.2.2
      have hP := hP.sub (ws' := [(h, .inr (0, [.ref qf, .ref qd, .ref qi, .ref qs, .ref qr, .ref qc, .ref qg, .ref qh])), (qs, .inr (4, [.ref gm, .ref gs, .ref gc, .int (u3.1)])), (gm, .inl (cI, 32, .inl ((f_SH_finish 8 (0 : Int32) (u3.1) (u3.2) sc ch hh).1))), (gs, .inl (cI, 64, .inl ((f_SH_finish 8 (0 : Int32) (u3.1) (u3.2) sc ch hh).2.1))), (gc, .inl (cI, 8, .inl ((f_SH_finish 8 (0 : Int32) (u3.1) (u3.2) sc ch hh).2.2.1))), (qr, .inl (cI, 2, .inl ru)), (qg, .inl (cI, 16, .inl rg)), (qh, .inl (cI, 8, .inl ((f_SH_finish 8 (0 : Int32) (u3.1) (u3.2) sc ch hh).2.2.2)))]) [0, 3, 4, 5, 6, 1, 2, 7] rfl
      have hD := hD.sub (ws' := [(h, .inr (0, [.ref qf, .ref qd, .ref qi, .ref qs, .ref qr, .ref qc, .ref qg, .ref qh])), (qs, .inr (4, [.ref gm, .ref gs, .ref gc, .int (u3.1)])), (gm, .inl (cI, 32, .inl ((f_SH_finish 8 (0 : Int32) (u3.1) (u3.2) sc ch hh).1))), (gs, .inl (cI, 64, .inl ((f_SH_finish 8 (0 : Int32) (u3.1) (u3.2) sc ch hh).2.1))), (gc, .inl (cI, 8, .inl ((f_SH_finish 8 (0 : Int32) (u3.1) (u3.2) sc ch hh).2.2.1))), (qr, .inl (cI, 2, .inl ru)), (qg, .inl (cI, 16, .inl rg)), (qh, .inl (cI, 8, .inl ((f_SH_finish 8 (0 : Int32) (u3.1) (u3.2) sc ch hh).2.2.2)))]) [0, 3, 4, 5, 6, 1, 2, 7] (by decide) rfl
      generalize H9 = H at hP hS ⊢
      have e0 : (f_BC_quote_c3 no wd sl ms sc ch ru rg hh u1 u2 u3) = f_BC_quote_c4 no wd sl ms sc ch ru rg hh u1 u2 u3 (f_SH_finish 8 (0 : Int32) (u3.1) (u3.2) sc ch hh) := by rw [f_BC_quote_c3]
      rw [e0]
      generalize hu4 : (f_SH_finish 8 (0 : Int32) (u3.1) (u3.2) sc ch hh) = u4 at hP hD ⊢
      have hP : va_P (dC, dI) classes [(h, .inr (0, [.ref qf, .ref qd, .ref qi, .ref qs, .ref qr, .ref qc, .ref qg, .ref qh])), (qs, .inr (4, [.ref gm, .ref gs, .ref gc, .int (u3.1)])), (gm, .inl (cI, 32, .inl (u4.1))), (gs, .inl (cI, 64, .inl (u4.2.1))), (gc, .inl (cI, 8, .inl (u4.2.2.1))), (qr, .inl (cI, 2, .inl ru)), (qg, .inl (cI, 16, .inl rg)), (qh, .inl (cI, 8, .inl (u4.2.2.2)))] H := hP
      have hD : va_D A [(h, .inr (0, [.ref qf, .ref qd, .ref qi, .ref qs, .ref qr, .ref qc, .ref qg, .ref qh])), (qs, .inr (4, [.ref gm, .ref gs, .ref gc, .int (u3.1)])), (gm, .inl (cI, 32, .inl (u4.1))), (gs, .inl (cI, 64, .inl (u4.2.1))), (gc, .inl (cI, 8, .inl (u4.2.2.1))), (qr, .inl (cI, 2, .inl ru)), (qg, .inl (cI, 16, .inl rg)), (qh, .inl (cI, 8, .inl (u4.2.2.2)))] := hD
      refine lv_aload_n hx hb d_BC_quote_85 rfl (lv_at hl 0 rfl) ?_
      refine va_get (D := (dC, dI)) (ci := 0) (v := .ref qh) (C := R_BC) (T := F_BC) (N := 8) hx hb hts in_BC hown hK hP 0 rfl rfl 7 (by decide) (hts _ gw_72) (fun _ h9 => h9) rfl d_BC_quote_86 ?_
      refine lv_iload_n hx hb d_BC_quote_89 rfl (lv_at hl 2 rfl) ?_
      refine va_iald hx hb hK hP 7 0 rfl rfl (by exact ix_hw (hw_ok (by assumption))) d_BC_quote_90 ?_
      have e0 : (f_BC_quote_c4 no wd sl ms sc ch ru rg hh u1 u2 u3 u4) = (0, ((u4.2.2.2) (wd).toNatClampNeg), (u3.1), (u4.1), (u4.2.1), (u4.2.2.1), (u4.2.2.2)) := by rw [f_BC_quote_c4]
      rw [e0]
      refine W.widen (k := 1) (n := 6) (Nat.zero_le _) (Nat.zero_le _) ?_
      exact tx_mono (fun _ h => tx_ofMQ h) (W.iret (v := ((u4.2.2.2) (wd).toNatClampNeg)) hx hb hr (fun t ht hW => ⟨Or.inl ⟨rfl, rfl⟩, ⟨by rw [ht]; exact hP, va_K.moved hW.alike hK, hD⟩, hS.F ht⟩) hS.2.2 d_BC_quote_91)
    · have e0 : (f_BC_quote no wd sl ms sc ch ru rg hh) = (2, 0, sl, ms, sc, ch, hh) := by rw [f_BC_quote, if_neg h3, if_pos h4]
      rw [e0]
      obtain ⟨sa, hstr⟩ := hE.2.2.2.1 (129, "not both stages run") (List.mem_of_getElem? (i := 5) rfl)
      exact tx_throw (own := "BootChain") (cls := "java/lang/IllegalStateException") (names := bc_up) (ik := 61) (is := 129) (ic := 65) (A := A) hx hb hlt hown (by decide +kernel) (by decide +kernel) (bc_tw hts hE ow_65) (hts _ gw_171) (hts _ gw_11) hE.2.2.1.1 hE.2.2.1.2 hstr hS hS.2.2 hl.1 hml hem hlocks (Nat.le_of_ble_eq_true rfl) (Nat.le_of_ble_eq_true rfl) (Nat.le_of_ble_eq_true rfl) (Nat.le_of_ble_eq_true rfl) d_BC_quote_24 d_BC_quote_27 d_BC_quote_28 d_BC_quote_30 d_BC_quote_33 (bc_thrown (by simp [bc_exc, bc_IAE, bc_ISE, bc_UOE]) hP hK hD hS)
  · have e0 : (f_BC_quote no wd sl ms sc ch ru rg hh) = (1, 0, sl, ms, sc, ch, hh) := by rw [f_BC_quote, if_pos h3]
    rw [e0]
    obtain ⟨sa, hstr⟩ := hE.2.2.2.1 (159, "no such word of a quote") (List.mem_of_getElem? (i := 9) rfl)
    exact tx_throw (own := "BootChain") (cls := "java/lang/IllegalArgumentException") (names := bc_up) (ik := 50) (is := 159) (ic := 54) (A := A) hx hb hlt hown (by decide +kernel) (by decide +kernel) (bc_tw hts hE ow_54) (hts _ gw_118) (hts _ gw_10) hE.2.2.1.1 hE.2.2.1.2 hstr hS hS.2.2 hl.1 hml hem hlocks (Nat.le_of_ble_eq_true rfl) (Nat.le_of_ble_eq_true rfl) (Nat.le_of_ble_eq_true rfl) (Nat.le_of_ble_eq_true rfl) d_BC_quote_7 d_BC_quote_10 d_BC_quote_11 d_BC_quote_13 d_BC_quote_16 (bc_thrown (by simp [bc_exc, bc_IAE, bc_ISE, bc_UOE]) hP hK hD hS)
