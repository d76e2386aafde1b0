theorem st_ok {sg : Int32} (h : ¬ f_BC_isStage sg = 0) : sg = 0 ∨ sg = 1 := by
  unfold f_BC_isStage at h
  by_cases h0 : sg < 0
  · rw [if_pos h0] at h; exact absurd rfl h
  · rw [if_neg h0] at h
    by_cases h1 : (2 : Int32) ≤ sg
    · rw [if_pos h1] at h; exact absurd rfl h
    · exact st_loop (Int32.not_lt.mp h0) h1

-- BC_power
theorem d_BC_power_0 : decode prog_1_method_4_code 0 = .ok (.iload_n 1, 1) := by decide +kernel
theorem d_BC_power_1 : decode prog_1_method_4_code 1 = .ok (.iconst (-1), 1) := by decide +kernel
theorem d_BC_power_2 : decode prog_1_method_4_code 2 = .ok (.if_icmp .lt 10, 3) := by decide +kernel
theorem d_BC_power_5 : decode prog_1_method_4_code 5 = .ok (.iload_n 1, 1) := by decide +kernel
theorem d_BC_power_6 : decode prog_1_method_4_code 6 = .ok (.sipush 1000, 3) := by decide +kernel
theorem d_BC_power_9 : decode prog_1_method_4_code 9 = .ok (.if_icmp .le 13, 3) := by decide +kernel
theorem d_BC_power_12 : decode prog_1_method_4_code 12 = .ok (.new 50, 3) := by decide +kernel
theorem d_BC_power_15 : decode prog_1_method_4_code 15 = .ok (.dup, 1) := by decide +kernel
theorem d_BC_power_16 : decode prog_1_method_4_code 16 = .ok (.ldc 108, 2) := by decide +kernel
theorem d_BC_power_18 : decode prog_1_method_4_code 18 = .ok (.invokespecial 54, 3) := by decide +kernel
theorem d_BC_power_21 : decode prog_1_method_4_code 21 = .ok (.athrow, 1) := by decide +kernel
theorem d_BC_power_22 : decode prog_1_method_4_code 22 = .ok (.aload_n 0, 1) := by decide +kernel
theorem d_BC_power_23 : decode prog_1_method_4_code 23 = .ok (.getfield 10, 3) := by decide +kernel
theorem d_BC_power_26 : decode prog_1_method_4_code 26 = .ok (.iload_n 1, 1) := by decide +kernel
theorem d_BC_power_27 : decode prog_1_method_4_code 27 = .ok (.invokevirtual 110, 3) := by decide +kernel
theorem d_BC_power_30 : decode prog_1_method_4_code 30 = .ok (.return_, 1) := by decide +kernel
def y_BC_power : MethodName := ⟨"BootChain", "power", "(I)V"⟩
def ws_BC_power : List Cond := .code y_BC_power prog_1_method_4_code 2 none :: bc_G
def f_BC_power_j12 (n0 : Int32) (wl : Int32) (fw : Nat → Int32) (y1_1 : Int32) : Nat × Int32 := (1, y1_1)
def f_BC_power (n0 : Int32) (wl : Int32) (fw : Nat → Int32) : Nat × Int32 := if n0 < (-1 : Int32) then f_BC_power_j12 n0 wl fw wl else if n0 ≤ (1000 : Int32) then (0, (f_FL_allowWrites n0 wl fw)) else f_BC_power_j12 n0 wl fw wl
set_option maxHeartbeats 4000000 in
set_option maxRecDepth 100000 in
theorem c_BC_power (l : Launch) (hlt : l.stackTraces = false) (dC : Nat → ClassId) (dI : Nat → Nat → Nat) (cI : ClassId) (h qf qd qi qs qr qc qg qh qfw : Nat) (sz : Nat) (n0 : Int32) (wl : Int32) (fw : Nat → Int32) : tx_Met l y_BC_power ws_BC_power ({ frames := 6, cells := 1, slots := 6, locals := 100 } : Room) (va_Pc [.ref h, .int n0] (bc_pre (dC, dI) cI [(h, .inr (0, [.ref qf, .ref qd, .ref qi, .ref qs, .ref qr, .ref qc, .ref qg, .ref qh])), (qf, .inr (1, [.ref qfw, .int wl])), (qfw, .inl (cI, 70, .inl fw))] sz)) (bc_Qx (f_BC_power n0 wl fw).1 none (dC, dI) cI (va_A [(h, .inr (0, [.ref qf, .ref qd, .ref qi, .ref qs, .ref qr, .ref qc, .ref qg, .ref qh])), (qf, .inr (1, [.ref qfw, .int wl])), (qfw, .inl (cI, 70, .inl fw))] sz) [(h, .inr (0, [.ref qf, .ref qd, .ref qi, .ref qs, .ref qr, .ref qc, .ref qg, .ref qh])), (qf, .inr (1, [.ref qfw, .int (f_BC_power n0 wl fw).2])), (qfw, .inl (cI, 70, .inl fw))]) 1 6 (va_A [(h, .inr (0, [.ref qf, .ref qd, .ref qi, .ref qs, .ref qr, .ref qc, .ref qg, .ref qh])), (qf, .inr (1, [.ref qfw, .int wl])), (qfw, .inl (cI, 70, .inl fw))] sz) := by
  refine tx_ofW (cc := prog_1_method_4_code) (maxL := 2) (ret := none) (by decide) rfl ?_
  intro p e s m args below meth c s₁ B hml hv
  obtain ⟨rfl, hsz, hP, hK, hD0, hE⟩ := hv
  have hx := B.exec
  have hb := B.bytes
  have hr := B.returns
  have hts : ∀ w ∈ bc_G, w.before ([.ref h, .int n0] : List Value).toArray s = true := fun w h => atoms_spec (ws := ws_BC_power) B.pre w (List.mem_cons_of_mem _ h)
  have hown : s.vm.findClass "BootChain" = some m.cls := findClass_of_methodNamed B.named
  have hlocks := B.notSynchronized
  subst hsz
  have hem := B.noHandlers (atoms_spec (ws := ws_BC_power) B.pre _ List.mem_cons_self)
  have hD := hD0.self (sz := s.heap.size)
  generalize hAe : va_A [(h, .inr (0, [.ref qf, .ref qd, .ref qi, .ref qs, .ref qr, .ref qc, .ref qg, .ref qh])), (qf, .inr (1, [.ref qfw, .int wl])), (qfw, .inl (cI, 70, .inl fw))] s.heap.size = A at hD hE ⊢
  have hA : ∀ q : Nat, s.heap.size ≤ q → A q := fun q h => by rw [← hAe]; exact Or.inr h
  have hS : va_S A s.heap s.heap [] := va_S.rf
  have jn_12 : ∀ (y1_1 : Int32) (H : Heap) (locs : List Loc) (ls : Array Slot), lv_has ls 2 [] → va_P (dC, dI) classes [(h, .inr (0, [.ref qf, .ref qd, .ref qi, .ref qs, .ref qr, .ref qc, .ref qg, .ref qh])), (qf, .inr (1, [.ref qfw, .int y1_1])), (qfw, .inl (cI, 70, .inl fw))] H → va_D A [(h, .inr (0, [.ref qf, .ref qd, .ref qi, .ref qs, .ref qr, .ref qc, .ref qg, .ref qh])), (qf, .inr (1, [.ref qfw, .int y1_1])), (qfw, .inl (cI, 70, .inl fw))] → va_S A s.heap H locs → W p l e (headSpec ws_BC_power ({ frames := 6, cells := 1, slots := 6, locals := 100 } : Room)).room s m ([.ref h, .int n0] : List Value).toArray below meth c H locs 0 0 (tx_MQ below (bc_Qx (f_BC_power_j12 n0 wl fw y1_1).1 none (dC, dI) cI A [(h, .inr (0, [.ref qf, .ref qd, .ref qi, .ref qs, .ref qr, .ref qc, .ref qg, .ref qh])), (qf, .inr (1, [.ref qfw, .int (f_BC_power_j12 n0 wl fw y1_1).2])), (qfw, .inl (cI, 70, .inl fw))]) ([.ref h, .int n0] : List Value).toArray s 1 6 A) (F0 m 12 ls []) := by
    intro y1_1 H locs ls hl hP hD hS
    have e0 : (f_BC_power_j12 n0 wl fw y1_1) = (1, y1_1) := by rw [f_BC_power_j12]
    rw [e0]
    obtain ⟨sa, hstr⟩ := hE.2.2.2.1 (108, "words is not -1 .. 1000") (List.mem_of_getElem? (i := 4) rfl)
    exact tx_throw (own := "BootChain") (cls := "java/lang/IllegalArgumentException") (names := bc_up) (ik := 50) (is := 108) (ic := 54) (A := A) hx hb hlt hown (by decide +kernel) (by decide +kernel) (bc_tw hts hE ow_54) (hts _ gw_118) (hts _ gw_10) hE.2.2.1.1 hE.2.2.1.2 hstr hS hS.2.2 hl.1 hml hem hlocks (Nat.le_of_ble_eq_true rfl) (Nat.le_of_ble_eq_true rfl) (Nat.le_of_ble_eq_true rfl) (Nat.le_of_ble_eq_true rfl) d_BC_power_12 d_BC_power_15 d_BC_power_16 d_BC_power_18 d_BC_power_21 (bc_thrown (by simp [bc_exc, bc_IAE, bc_ISE, bc_UOE]) hP hK hD hS)
  have hl := lv_entry ([.ref h, .int n0]) (n := 2) (Nat.le_of_ble_eq_true rfl)
  rw [lg_entry_eq]
  generalize (lg_sl ([.ref h, .int n0]) ++ List.replicate (2 - (lg_sl ([.ref h, .int n0])).length) Slot.unset).toArray = ls at hl ⊢
  have hl : lv_has ls 2 [(0, .ref h), (1, .int n0)] := hl
  refine lv_iload_n hx hb d_BC_power_0 rfl (lv_at hl 1 rfl) ?_
  refine lv_iconst (v := (-1)) hx hb d_BC_power_1 (by decide) ?_
  refine lv_icmp_lt (tgt := 12) hx hb d_BC_power_2 (by decide) (fun h3 => ?_) (fun h3 => ?_)
  · have e0 : (f_BC_power n0 wl fw) = f_BC_power_j12 n0 wl fw wl := by rw [f_BC_power, if_pos h3]
    rw [e0]
    exact jn_12 wl _ _ ls (lv_sub hl [] rfl) hP hD hS
  · refine lv_iload_n hx hb d_BC_power_5 rfl (lv_at hl 1 rfl) ?_
    refine lv_sipush (v := 1000) hx hb d_BC_power_6 (by decide) ?_
    refine lv_icmp_le (tgt := 22) hx hb d_BC_power_9 (by decide) (fun h4 => ?_) (fun h4 => ?_)
    · refine lv_aload_n hx hb d_BC_power_22 rfl (lv_at hl 0 rfl) ?_
      refine va_get (D := (dC, dI)) (ci := 0) (v := .ref qf) (C := R_BC) (T := F_BC) (N := 8) hx hb hts in_BC hown hK hP 0 rfl rfl 0 (by decide) (hts _ gw_65) (fun _ h9 => h9) rfl d_BC_power_23 ?_
      refine lv_iload_n hx hb d_BC_power_26 rfl (lv_at hl 1 rfl) ?_
      have hPc := hP.sub (ws' := [(qf, .inr (1, [.ref qfw, .int wl])), (qfw, .inl (cI, 70, .inl fw))]) [1, 2] rfl
      have hDc := hD.sub (ws' := [(qf, .inr (1, [.ref qfw, .int wl])), (qfw, .inl (cI, 70, .inl fw))]) [1, 2] (by decide) rfl
      have hFc := va_free (wc := [(qf, .inr (1, [.ref qfw, .int wl])), (qfw, .inl (cI, 70, .inl fw))]) hD hS hA [1, 2] rfl
      refine va_callv (va_runV (As := [.int n0]) (rest := []) ⟨hx, hb, hml, hown, hts⟩ (c_FL_allowWrites l dC dI cI qf qfw _ n0 wl fw) ⟨callB_of 1 hts (bc_good gw_294) rfl rfl rfl (hts _ gw_2) (hts _ gw_291) (by decide +kernel) ⟨Nat.le_of_ble_eq_true rfl, Nat.le_of_ble_eq_true rfl⟩, (hts _ gw_292), (hts _ gw_293)⟩ ⟨bc_blind, va_recv (q0 := 1) hK hP (q := (R_FL, F_FL, 2)) rfl rfl, fun U hU hW => ⟨rfl, bc_give hPc hDc hK hE hS hFc U hU hW⟩⟩ rfl rfl hl.1 rfl (lv_room (Nat.le_of_ble_eq_true rfl)) d_BC_power_27 ⟨Nat.le_of_ble_eq_true rfl, Nat.le_of_ble_eq_true rfl⟩) hS (fun q _ h => hFc q h) hFc (fun u t H9 locs ht hvm hp hB hz1 hk1 hS => ?_)
      obtain ⟨hP, hD⟩ := va_join (wr := [(h, .inr (0, [.ref qf, .ref qd, .ref qi, .ref qs, .ref qr, .ref qc, .ref qg, .ref qh]))]) (w1 := [(qf, .inr (1, [.ref qfw, .int (f_FL_allowWrites n0 wl fw)])), (qfw, .inl (cI, 70, .inl fw))]) hP hD [1, 2] [0] rfl rfl (by decide) (by decide) hk1 hFc (ht ▸ hB.1) hB.2.2
      have hP := hP.sub (ws' := [(h, .inr (0, [.ref qf, .ref qd, .ref qi, .ref qs, .ref qr, .ref qc, .ref qg, .ref qh])), (qf, .inr (1, [.ref qfw, .int (f_FL_allowWrites n0 wl fw)])), (qfw, .inl (cI, 70, .inl fw))]) [0, 1, 2] rfl
      have hD := hD.sub (ws' := [(h, .inr (0, [.ref qf, .ref qd, .ref qi, .ref qs, .ref qr, .ref qc, .ref qg, .ref qh])), (qf, .inr (1, [.ref qfw, .int (f_FL_allowWrites n0 wl fw)])), (qfw, .inl (cI, 70, .inl fw))]) [0, 1, 2] (by decide) rfl
      generalize H9 = H at hP hS ⊢
      have e0 : (f_BC_power n0 wl fw) = (0, (f_FL_allowWrites n0 wl fw)) := by rw [f_BC_power, if_neg h3, if_pos h4]
      rw [e0]
      refine W.widen (k := 1) (n := 6) (Nat.zero_le _) (Nat.zero_le _) ?_
      exact tx_mono (fun _ h => tx_ofMQ h) (W.vret hx hb hr (fun t ht hW => ⟨Or.inl ⟨rfl, rfl⟩, ⟨by rw [ht]; exact hP, va_K.moved hW.alike hK, hD⟩, hS.F ht⟩) hS.2.2 d_BC_power_30)
    · have e0 : (f_BC_power n0 wl fw) = f_BC_power_j12 n0 wl fw wl := by rw [f_BC_power, if_neg h3, if_neg h4]
      rw [e0]
      exact jn_12 wl _ _ ls (lv_sub hl [] rfl) hP hD hS
-- BC_counter
theorem d_BC_counter_0 : decode prog_1_method_11_code 0 = .ok (.iload_n 1, 1) := by decide +kernel
theorem d_BC_counter_1 : decode prog_1_method_11_code 1 = .ok (.invokestatic 70, 3) := by decide +kernel
theorem d_BC_counter_4 : decode prog_1_method_11_code 4 = .ok (.ifCond .ne 13, 3) := by decide +kernel
theorem d_BC_counter_7 : decode prog_1_method_11_code 7 = .ok (.new 50, 3) := by decide +kernel
theorem d_BC_counter_10 : decode prog_1_method_11_code 10 = .ok (.dup, 1) := by decide +kernel
theorem d_BC_counter_11 : decode prog_1_method_11_code 11 = .ok (.ldc 140, 2) := by decide +kernel
theorem d_BC_counter_13 : decode prog_1_method_11_code 13 = .ok (.invokespecial 54, 3) := by decide +kernel
theorem d_BC_counter_16 : decode prog_1_method_11_code 16 = .ok (.athrow, 1) := by decide +kernel
theorem d_BC_counter_17 : decode prog_1_method_11_code 17 = .ok (.aload_n 0, 1) := by decide +kernel
theorem d_BC_counter_18 : decode prog_1_method_11_code 18 = .ok (.getfield 41, 3) := by decide +kernel
theorem d_BC_counter_21 : decode prog_1_method_11_code 21 = .ok (.iload_n 1, 1) := by decide +kernel
theorem d_BC_counter_22 : decode prog_1_method_11_code 22 = .ok (.iaload, 1) := by decide +kernel
theorem d_BC_counter_23 : decode prog_1_method_11_code 23 = .ok (.ireturn, 1) := by decide +kernel
def y_BC_counter : MethodName := ⟨"BootChain", "counter", "(I)I"⟩
def ws_BC_counter : List Cond := .code y_BC_counter prog_1_method_11_code 2 (some .int) :: bc_G
def f_BC_counter (sg : Int32) (cn : Nat → Int32) : Nat × Int32 := if (f_BC_isStage sg) = 0 then (1, 0) else (0, (cn (sg).toNatClampNeg))
set_option maxHeartbeats 4000000 in
set_option maxRecDepth 100000 in
theorem c_BC_counter (l : Launch) (hlt : l.stackTraces = false) (dC : Nat → ClassId) (dI : Nat → Nat → Nat) (cI : ClassId) (h qf qd qi qs qr qc qg qh : Nat) (sz : Nat) (sg : Int32) (cn : Nat → Int32) : tx_Met l y_BC_counter ws_BC_counter ({ frames := 6, cells := 1, slots := 6, locals := 100 } : Room) (va_Pc [.ref h, .int sg] (bc_pre (dC, dI) cI [(h, .inr (0, [.ref qf, .ref qd, .ref qi, .ref qs, .ref qr, .ref qc, .ref qg, .ref qh])), (qc, .inl (cI, 2, .inl cn))] sz)) (bc_Qx (f_BC_counter sg cn).1 (some (.int (f_BC_counter sg cn).2)) (dC, dI) cI (va_A [(h, .inr (0, [.ref qf, .ref qd, .ref qi, .ref qs, .ref qr, .ref qc, .ref qg, .ref qh])), (qc, .inl (cI, 2, .inl cn))] sz) [(h, .inr (0, [.ref qf, .ref qd, .ref qi, .ref qs, .ref qr, .ref qc, .ref qg, .ref qh])), (qc, .inl (cI, 2, .inl cn))]) 1 6 (va_A [(h, .inr (0, [.ref qf, .ref qd, .ref qi, .ref qs, .ref qr, .ref qc, .ref qg, .ref qh])), (qc, .inl (cI, 2, .inl cn))] sz) := by
  refine tx_ofW (cc := prog_1_method_11_code) (maxL := 2) (ret := (some .int)) (by decide) rfl ?_
  intro p e s m args below meth c s₁ B hml hv
  obtain ⟨rfl, hsz, hP, hK, hD0, hE⟩ := hv
  have hx := B.exec
  have hb := B.bytes
  have hr := B.returns
  have hts : ∀ w ∈ bc_G, w.before ([.ref h, .int sg] : List Value).toArray s = true := fun w h => atoms_spec (ws := ws_BC_counter) B.pre w (List.mem_cons_of_mem _ h)
  have hown : s.vm.findClass "BootChain" = some m.cls := findClass_of_methodNamed B.named
  have hlocks := B.notSynchronized
  subst hsz
  have hem := B.noHandlers (atoms_spec (ws := ws_BC_counter) B.pre _ List.mem_cons_self)
  have hD := hD0.self (sz := s.heap.size)
  generalize hAe : va_A [(h, .inr (0, [.ref qf, .ref qd, .ref qi, .ref qs, .ref qr, .ref qc, .ref qg, .ref qh])), (qc, .inl (cI, 2, .inl cn))] s.heap.size = A at hD hE ⊢
  have hA : ∀ q : Nat, s.heap.size ≤ q → A q := fun q h => by rw [← hAe]; exact Or.inr h
  have hS : va_S A s.heap s.heap [] := va_S.rf
  have hl := lv_entry ([.ref h, .int sg]) (n := 2) (Nat.le_of_ble_eq_true rfl)
  rw [lg_entry_eq]
  generalize (lg_sl ([.ref h, .int sg]) ++ List.replicate (2 - (lg_sl ([.ref h, .int sg])).length) Slot.unset).toArray = ls at hl ⊢
  have hl : lv_has ls 2 [(0, .ref h), (1, .int sg)] := hl
  refine lv_iload_n hx hb d_BC_counter_0 rfl (lv_at hl 1 rfl) ?_
  have hPc := hP.sub (ws' := []) [] rfl
  have hDc := hD.sub (ws' := []) [] (by decide) rfl
  have hFc := va_free (wc := []) hD hS hA [] rfl
  refine va_calli (va_runS (As := [.int sg]) (rest := []) ⟨hx, hb, hml, hown, hts⟩ (c_BC_isStage l dC dI cI _ sg) ⟨callB_of 1 hts (bc_good gw_197) rfl rfl rfl (hts _ gw_1) (hts _ gw_195) (by decide +kernel) ⟨Nat.le_of_ble_eq_true rfl, Nat.le_of_ble_eq_true rfl⟩, (hts _ gw_196)⟩ ⟨bc_blind, fun U hU hW => ⟨rfl, bc_give hPc hDc hK hE hS hFc U hU hW⟩⟩ rfl rfl hl.1 rfl (lv_room (Nat.le_of_ble_eq_true rfl)) d_BC_counter_1 ⟨Nat.le_of_ble_eq_true rfl, Nat.le_of_ble_eq_true rfl⟩) hS (fun q _ h => hFc q h) hFc (fun r u t H9 locs ht hvm hp hB hz1 hk1 hS => ?_)
  subst hp
  obtain ⟨hP, hD⟩ := va_join (wr := [(h, .inr (0, [.ref qf, .ref qd, .ref qi, .ref qs, .ref qr, .ref qc, .ref qg, .ref qh])), (qc, .inl (cI, 2, .inl cn))]) (w1 := []) hP hD [] [0, 1] rfl rfl (by decide) (by decide) hk1 hFc (ht ▸ hB.1) hB.2.2
  have hP := hP.sub (ws' := [(h, .inr (0, [.ref qf, .ref qd, .ref qi, .ref qs, .ref qr, .ref qc, .ref qg, .ref qh])), (qc, .inl (cI, 2, .inl cn))]) [0, 1] rfl
  have hD := hD.sub (ws' := [(h, .inr (0, [.ref qf, .ref qd, .ref qi, .ref qs, .ref qr, .ref qc, .ref qg, .ref qh])), (qc, .inl (cI, 2, .inl cn))]) [0, 1] (by decide) rfl
  generalize H9 = H at hP hS ⊢
  refine lv_if_ne (tgt := 17) hx hb d_BC_counter_4 (by decide) (fun h2 => ?_) (fun h2 => ?_)
  · refine lv_aload_n hx hb d_BC_counter_17 rfl (lv_at hl 0 rfl) ?_
    refine va_get (D := (dC, dI)) (ci := 0) (v := .ref qc) (C := R_BC) (T := F_BC) (N := 8) hx hb hts in_BC hown hK hP 0 rfl rfl 5 (by decide) (hts _ gw_70) (fun _ h9 => h9) rfl d_BC_counter_18 ?_
    refine lv_iload_n hx hb d_BC_counter_21 rfl (lv_at hl 1 rfl) ?_
    refine va_iald hx hb hK hP 1 0 rfl rfl (by exact ix_st (st_ok (by assumption))) d_BC_counter_22 ?_
    have e0 : (f_BC_counter sg cn) = (0, (cn (sg).toNatClampNeg)) := by rw [f_BC_counter, if_neg h2]
    rw [e0]
    refine W.widen (k := 1) (n := 6) (Nat.zero_le _) (Nat.zero_le _) ?_
    exact tx_mono (fun _ h => tx_ofMQ h) (W.iret (v := (cn (sg).toNatClampNeg)) hx hb hr (fun t ht hW => ⟨Or.inl ⟨rfl, rfl⟩, ⟨by rw [ht]; exact hP, va_K.moved hW.alike hK, hD⟩, hS.F ht⟩) hS.2.2 d_BC_counter_23)
  · have e0 : (f_BC_counter sg cn) = (1, 0) := by rw [f_BC_counter, if_pos h2]
    rw [e0]
    obtain ⟨sa, hstr⟩ := hE.2.2.2.1 (140, "no such stage") (List.mem_of_getElem? (i := 6) rfl)
    exact tx_throw (own := "BootChain") (cls := "java/lang/IllegalArgumentException") (names := bc_up) (ik := 50) (is := 140) (ic := 54) (A := A) hx hb hlt hown (by decide +kernel) (by decide +kernel) (bc_tw hts hE ow_54) (hts _ gw_118) (hts _ gw_10) hE.2.2.1.1 hE.2.2.1.2 hstr hS hS.2.2 hl.1 hml hem hlocks (Nat.le_of_ble_eq_true rfl) (Nat.le_of_ble_eq_true rfl) (Nat.le_of_ble_eq_true rfl) (Nat.le_of_ble_eq_true rfl) d_BC_counter_7 d_BC_counter_10 d_BC_counter_11 d_BC_counter_13 d_BC_counter_16 (bc_thrown (by simp [bc_exc, bc_IAE, bc_ISE, bc_UOE]) hP hK hD hS)
