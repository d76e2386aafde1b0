-- LA_confirm
theorem d_LA_confirm_0 : decode method_7_code 0 = .ok (.aload_n 0, 1) := by decide +kernel
theorem d_LA_confirm_1 : decode method_7_code 1 = .ok (.invokevirtual 29, 3) := by decide +kernel
theorem d_LA_confirm_4 : decode method_7_code 4 = .ok (.goto 9, 3) := by decide +kernel
theorem d_LA_confirm_7 : decode method_7_code 7 = .ok (.astore_n 1, 1) := by decide +kernel
theorem d_LA_confirm_8 : decode method_7_code 8 = .ok (.iconst 1, 1) := by decide +kernel
theorem d_LA_confirm_9 : decode method_7_code 9 = .ok (.ireturn, 1) := by decide +kernel
theorem d_LA_confirm_10 : decode method_7_code 10 = .ok (.astore_n 1, 1) := by decide +kernel
theorem d_LA_confirm_11 : decode method_7_code 11 = .ok (.iconst 2, 1) := by decide +kernel
theorem d_LA_confirm_12 : decode method_7_code 12 = .ok (.ireturn, 1) := by decide +kernel
theorem d_LA_confirm_13 : decode method_7_code 13 = .ok (.iconst 0, 1) := by decide +kernel
theorem d_LA_confirm_14 : decode method_7_code 14 = .ok (.ireturn, 1) := by decide +kernel
def y_LA_confirm : MethodName := ⟨"BootChainLaw", "confirm", "(LBootChain;)I"⟩
def ws_LA_confirm : List Cond := .codeWith y_LA_confirm method_7_code 2 (some .int) [(0, 4, 7, 15), (0, 4, 10, 32)] :: bc_G
set_option maxHeartbeats 4000000 in
set_option maxRecDepth 100000 in
theorem c_LA_confirm (l : Launch) (hlt : l.stackTraces = false) (dC : Nat → ClassId) (dI : Nat → Nat → Nat) (cI cJ : ClassId) (h qf qd qi qs qr qc qg qh qfw : Nat) (sz : Nat) (wl : Int32) (fw : Nat → Int32) (ru : Nat → Int32) (cn : Nat → Int32) (rg : Nat → Int32) (hrv : run_ok ru) (hk : (f_BC_confirm wl fw ru cn rg).1 = 0 ∨ (f_BC_confirm wl fw ru cn rg).1 = 2 ∨ (f_BC_confirm wl fw ru cn rg).1 = 3) : Met l y_LA_confirm ws_LA_confirm ({ frames := 7, cells := 1, slots := 6, locals := 132 } : Room) (va_Pc [.ref h] (fun U => bc_pre (dC, dI) cI cJ [(h, .inr (0, [.ref qf, .ref qd, .ref qi, .ref qs, .ref qr, .ref qc, .ref qg, .ref qh])), (qf, .inr (1, [.ref qfw, .int wl])), (qfw, .inl (cI, 70, .inl fw)), (qr, .inl (cI, 2, .inl ru)), (qc, .inl (cI, 2, .inl cn)), (qg, .inl (cI, 16, .inl rg))] sz U ∧ lw_N U)) (va_Qi (fun (r : Int32) (_ : Unit) => r = lwS (f_BC_confirm wl fw ru cn rg).1) (fun _ => bc_post (dC, dI) cI cJ (va_A [(h, .inr (0, [.ref qf, .ref qd, .ref qi, .ref qs, .ref qr, .ref qc, .ref qg, .ref qh])), (qf, .inr (1, [.ref qfw, .int wl])), (qfw, .inl (cI, 70, .inl fw)), (qr, .inl (cI, 2, .inl ru)), (qc, .inl (cI, 2, .inl cn)), (qg, .inl (cI, 16, .inl rg))] sz) [(h, .inr (0, [.ref qf, .ref qd, .ref qi, .ref qs, .ref qr, .ref qc, .ref qg, .ref qh])), (qf, .inr (1, [.ref qfw, .int (f_BC_confirm wl fw ru cn rg).2.1])), (qfw, .inl (cI, 70, .inl (f_BC_confirm wl fw ru cn rg).2.2.1)), (qr, .inl (cI, 2, .inl (f_BC_confirm wl fw ru cn rg).2.2.2.1)), (qc, .inl (cI, 2, .inl (f_BC_confirm wl fw ru cn rg).2.2.2.2.1)), (qg, .inl (cI, 16, .inl (f_BC_confirm wl fw ru cn rg).2.2.2.2.2))]) (va_A [(h, .inr (0, [.ref qf, .ref qd, .ref qi, .ref qs, .ref qr, .ref qc, .ref qg, .ref qh])), (qf, .inr (1, [.ref qfw, .int wl])), (qfw, .inl (cI, 70, .inl fw)), (qr, .inl (cI, 2, .inl ru)), (qc, .inl (cI, 2, .inl cn)), (qg, .inl (cI, 16, .inl rg))] sz)) 1 6 (va_A [(h, .inr (0, [.ref qf, .ref qd, .ref qi, .ref qs, .ref qr, .ref qc, .ref qg, .ref qh])), (qf, .inr (1, [.ref qfw, .int wl])), (qfw, .inl (cI, 70, .inl fw)), (qr, .inl (cI, 2, .inl ru)), (qc, .inl (cI, 2, .inl cn)), (qg, .inl (cI, 16, .inl rg))] sz) := by
  refine va_MetW (cc := method_7_code) (maxL := 2) (ret := some .int) (hh := [(0, 4, 7, 15), (0, 4, 10, 32)]) (by decide) rfl ?_
  intro p e s m args below meth c s₁ B hml hv
  obtain ⟨rfl, ⟨hsz, hP, hK, hD0, hE⟩, hN⟩ := hv
  have hx := B.exec
  have hb := B.bytes
  have hr := B.returns
  have hts : ∀ w ∈ bc_G, w.before ([.ref h] : List Value).toArray s = true := fun w h => atoms_spec (ws := ws_LA_confirm) B.pre w (List.mem_cons_of_mem _ h)
  have hown : s.vm.findClass "BootChainLaw" = some m.cls := findClass_of_methodNamed B.named
  have hht := lw_table B (atoms_spec (ws := ws_LA_confirm) B.pre _ List.mem_cons_self)
  have hpl : e.platform.magicAccessors = ({} : Platform).magicAccessors := by rw [B.admits.platform]
  subst hsz
  have hD := hD0.self (sz := s.heap.size)
  generalize hAe : va_A [(h, .inr (0, [.ref qf, .ref qd, .ref qi, .ref qs, .ref qr, .ref qc, .ref qg, .ref qh])), (qf, .inr (1, [.ref qfw, .int wl])), (qfw, .inl (cI, 70, .inl fw)), (qr, .inl (cI, 2, .inl ru)), (qc, .inl (cI, 2, .inl cn)), (qg, .inl (cI, 16, .inl rg))] s.heap.size = A at hD hE ⊢
  have hA : ∀ q : Nat, s.heap.size ≤ q → A q := fun q h => by rw [← hAe]; exact Or.inr h
  have hS : va_S A s.heap s.heap [] := va_S.rf
  obtain ⟨cS, cS2, fS, fS2, aS⟩ := Cond.castable_spec (va_Nw.use (A := ([.ref h] : List Value).toArray) rfl (hE.2.2.2.2 (Cond.castable "java/lang/IllegalStateException" "java/lang/IllegalStateException") (List.mem_of_getElem? (i := 7) rfl)))
  cases fS.symm.trans fS2
  obtain ⟨cU, cU2, fU, fU2, aU⟩ := Cond.castable_spec (va_Nw.use (A := ([.ref h] : List Value).toArray) rfl (hE.2.2.2.2 (Cond.castable "java/lang/UnsupportedOperationException" "java/lang/UnsupportedOperationException") (List.mem_of_getElem? (i := 8) rfl)))
  cases fU.symm.trans fU2
  have hl := lv_entry ([.ref h]) (n := 2) (Nat.le_of_ble_eq_true rfl)
  rw [lg_entry_eq]
  generalize (lg_sl ([.ref h]) ++ List.replicate (2 - (lg_sl ([.ref h])).length) Slot.unset).toArray = ls at hl ⊢
  have hl : lv_has ls 2 [(0, .ref h)] := hl
  refine lv_aload_n hx hb d_LA_confirm_0 rfl (lv_at hl 0 rfl) ?_
  have hPc := hP.sub (ws' := [(h, .inr (0, [.ref qf, .ref qd, .ref qi, .ref qs, .ref qr, .ref qc, .ref qg, .ref qh])), (qf, .inr (1, [.ref qfw, .int wl])), (qfw, .inl (cI, 70, .inl fw)), (qr, .inl (cI, 2, .inl ru)), (qc, .inl (cI, 2, .inl cn)), (qg, .inl (cI, 16, .inl rg))]) [0, 1, 2, 3, 4, 5] rfl
  have hDc := hD.sub (ws' := [(h, .inr (0, [.ref qf, .ref qd, .ref qi, .ref qs, .ref qr, .ref qc, .ref qg, .ref qh])), (qf, .inr (1, [.ref qfw, .int wl])), (qfw, .inl (cI, 70, .inl fw)), (qr, .inl (cI, 2, .inl ru)), (qc, .inl (cI, 2, .inl cn)), (qg, .inl (cI, 16, .inl rg))]) [0, 1, 2, 3, 4, 5] (by decide) rfl
  have hFc := va_free (wc := [(h, .inr (0, [.ref qf, .ref qd, .ref qi, .ref qs, .ref qr, .ref qc, .ref qg, .ref qh])), (qf, .inr (1, [.ref qfw, .int wl])), (qfw, .inl (cI, 70, .inl fw)), (qr, .inl (cI, 2, .inl ru)), (qc, .inl (cI, 2, .inl cn)), (qg, .inl (cI, 16, .inl rg))]) hD hS hA [0, 1, 2, 3, 4, 5] rfl
  refine tx_callW (own := "BootChainLaw") (lw_runV (As := []) (rest := []) ⟨hx, hb, hml, hown, hts⟩ (c_BC_confirm l hlt dC dI cI cJ h qf qd qi qs qr qc qg qh qfw _ wl fw ru cn rg hrv) ⟨callB_of 0 hts (bc_good gw_357) rfl rfl rfl (hts _ gw_1) (hts _ gw_354) (by decide +kernel) ⟨Nat.le_of_ble_eq_true rfl, Nat.le_of_ble_eq_true rfl⟩, (hts _ gw_355), (hts _ gw_356)⟩ ⟨bc_blind, va_recv (q0 := 0) hK hP (q := (R_BC, F_BC, 8)) rfl rfl, fun U hU hW => ⟨rfl, bc_give hPc hDc hK hE hS hFc U hU hW⟩⟩ rfl rfl hl.1 rfl (lv_room (Nat.le_of_ble_eq_true rfl)) d_LA_confirm_1 ⟨Nat.le_of_ble_eq_true rfl, Nat.le_of_ble_eq_true rfl⟩) hown (fun v st₀ t H1 L h0 ht hvm hq hL => ?_) (fun x st₀ t H1 L h0 ht hvm hq hL => ?_)
  · obtain ⟨hal, hout, hB, hz1, hk1⟩ := hq
    rcases hout with ⟨hk0, hv⟩ | ⟨x9, ce, nm, hv, -⟩
    · cases hv
      rw [h0] at hz1 hk1
      rw [ht] at hz1 hk1
      obtain ⟨hP, hD⟩ := va_join (wr := []) (w1 := [(h, .inr (0, [.ref qf, .ref qd, .ref qi, .ref qs, .ref qr, .ref qc, .ref qg, .ref qh])), (qf, .inr (1, [.ref qfw, .int (f_BC_confirm wl fw ru cn rg).2.1])), (qfw, .inl (cI, 70, .inl (f_BC_confirm wl fw ru cn rg).2.2.1)), (qr, .inl (cI, 2, .inl (f_BC_confirm wl fw ru cn rg).2.2.2.1)), (qc, .inl (cI, 2, .inl (f_BC_confirm wl fw ru cn rg).2.2.2.2.1)), (qg, .inl (cI, 16, .inl (f_BC_confirm wl fw ru cn rg).2.2.2.2.2))]) hP hD [0, 1, 2, 3, 4, 5] [] rfl rfl (by decide) (by decide) hk1 hFc (ht ▸ hB.1) hB.2.2
      have hS := lw_S hS hz1 hk1 hFc hL
      have hP := hP.sub (ws' := [(h, .inr (0, [.ref qf, .ref qd, .ref qi, .ref qs, .ref qr, .ref qc, .ref qg, .ref qh])), (qf, .inr (1, [.ref qfw, .int (f_BC_confirm wl fw ru cn rg).2.1])), (qfw, .inl (cI, 70, .inl (f_BC_confirm wl fw ru cn rg).2.2.1)), (qr, .inl (cI, 2, .inl (f_BC_confirm wl fw ru cn rg).2.2.2.1)), (qc, .inl (cI, 2, .inl (f_BC_confirm wl fw ru cn rg).2.2.2.2.1)), (qg, .inl (cI, 16, .inl (f_BC_confirm wl fw ru cn rg).2.2.2.2.2))]) [0, 1, 2, 3, 4, 5] rfl
      have hD := hD.sub (ws' := [(h, .inr (0, [.ref qf, .ref qd, .ref qi, .ref qs, .ref qr, .ref qc, .ref qg, .ref qh])), (qf, .inr (1, [.ref qfw, .int (f_BC_confirm wl fw ru cn rg).2.1])), (qfw, .inl (cI, 70, .inl (f_BC_confirm wl fw ru cn rg).2.2.1)), (qr, .inl (cI, 2, .inl (f_BC_confirm wl fw ru cn rg).2.2.2.1)), (qc, .inl (cI, 2, .inl (f_BC_confirm wl fw ru cn rg).2.2.2.2.1)), (qg, .inl (cI, 16, .inl (f_BC_confirm wl fw ru cn rg).2.2.2.2.2))]) [0, 1, 2, 3, 4, 5] (by decide) rfl
      generalize H1 = H at hP hS ⊢
      refine lv_goto (tgt := 13) hx hb d_LA_confirm_4 (by decide) ?_
      refine lv_iconst (v := 0) hx hb d_LA_confirm_13 (by decide) ?_
      exact W.iret (v := (0 : Int32)) hx hb hr (fun t ht hW => ⟨⟨(0 : Int32), (), rfl, by rw [hk0]; rfl, by rw [ht]; exact hP, va_K.moved hW.alike hK, hD⟩, hS.F ht⟩) hS.2.2 d_LA_confirm_14
    · cases hv
  · obtain ⟨hal, hout, hB, hz1, hk1⟩ := hq
    rcases hout with ⟨hk0, hv⟩ | ⟨x9, ce, nm, hv, hex, hce, hvn, hfc, -⟩
    · cases hv
    · cases hv
      rw [ht] at hce
      rw [h0] at hz1 hk1
      rw [ht] at hz1 hk1
      obtain ⟨hP, hD⟩ := va_join (wr := []) (w1 := [(h, .inr (0, [.ref qf, .ref qd, .ref qi, .ref qs, .ref qr, .ref qc, .ref qg, .ref qh])), (qf, .inr (1, [.ref qfw, .int (f_BC_confirm wl fw ru cn rg).2.1])), (qfw, .inl (cI, 70, .inl (f_BC_confirm wl fw ru cn rg).2.2.1)), (qr, .inl (cI, 2, .inl (f_BC_confirm wl fw ru cn rg).2.2.2.1)), (qc, .inl (cI, 2, .inl (f_BC_confirm wl fw ru cn rg).2.2.2.2.1)), (qg, .inl (cI, 16, .inl (f_BC_confirm wl fw ru cn rg).2.2.2.2.2))]) hP hD [0, 1, 2, 3, 4, 5] [] rfl rfl (by decide) (by decide) hk1 hFc (ht ▸ hB.1) hB.2.2
      have hS := lw_S hS hz1 hk1 hFc hL
      have hP := hP.sub (ws' := [(h, .inr (0, [.ref qf, .ref qd, .ref qi, .ref qs, .ref qr, .ref qc, .ref qg, .ref qh])), (qf, .inr (1, [.ref qfw, .int (f_BC_confirm wl fw ru cn rg).2.1])), (qfw, .inl (cI, 70, .inl (f_BC_confirm wl fw ru cn rg).2.2.1)), (qr, .inl (cI, 2, .inl (f_BC_confirm wl fw ru cn rg).2.2.2.1)), (qc, .inl (cI, 2, .inl (f_BC_confirm wl fw ru cn rg).2.2.2.2.1)), (qg, .inl (cI, 16, .inl (f_BC_confirm wl fw ru cn rg).2.2.2.2.2))]) [0, 1, 2, 3, 4, 5] rfl
      have hD := hD.sub (ws' := [(h, .inr (0, [.ref qf, .ref qd, .ref qi, .ref qs, .ref qr, .ref qc, .ref qg, .ref qh])), (qf, .inr (1, [.ref qfw, .int (f_BC_confirm wl fw ru cn rg).2.1])), (qfw, .inl (cI, 70, .inl (f_BC_confirm wl fw ru cn rg).2.2.1)), (qr, .inl (cI, 2, .inl (f_BC_confirm wl fw ru cn rg).2.2.2.1)), (qc, .inl (cI, 2, .inl (f_BC_confirm wl fw ru cn rg).2.2.2.2.1)), (qg, .inl (cI, 16, .inl (f_BC_confirm wl fw ru cn rg).2.2.2.2.2))]) [0, 1, 2, 3, 4, 5] (by decide) rfl
      rcases hex with ⟨hk9, rfl⟩ | ⟨hk9, rfl⟩ | ⟨hk9, rfl⟩
      · exfalso; omega
      · obtain ⟨z1, z2, z3, z4⟩ := lw_hit (e := e) (t := t) (ix := 15) (pc := 1) (hpc := 7) hal hown (hts _ gw_113) hpl (by rw [ht]; exact hce) hvn hfc hht (fun hf => by
          cases (show some cS = some ce.cls from fS.symm.trans hf)
          exact ⟨by decide, by decide, by decide, _, _, hts _ gw_113, fS, Or.inl ⟨aS, rfl⟩⟩)
        refine ⟨7, ce, hce, z2, z3, z4, ?_⟩
        clear z1 z2 z3 z4 hce
        generalize H1 = H at hP hS ⊢
        refine lv_astore_n (lv' := [(1, .ref x), (0, .ref h)]) hx hb d_LA_confirm_7 rfl hl (by decide) rfl (fun ls hl => ?_)
        refine lv_iconst (v := 1) hx hb d_LA_confirm_8 (by decide) ?_
        exact W.iret (v := (1 : Int32)) hx hb hr (fun t ht hW => ⟨⟨(1 : Int32), (), rfl, by rw [hk9]; rfl, by rw [ht]; exact hP, va_K.moved hW.alike hK, hD⟩, hS.F ht⟩) hS.2.2 d_LA_confirm_9
      · obtain ⟨z1, z2, z3, z4⟩ := lw_hit (e := e) (t := t) (ix := 32) (pc := 1) (hpc := 10) hal hown (hts _ gw_353) hpl (by rw [ht]; exact hce) hvn hfc hht (fun hf => by
          cases (show some cU = some ce.cls from fU.symm.trans hf)
          exact ⟨by decide, by decide, by decide, _, _, hts _ gw_113, fS, Or.inr ⟨hN (bc_UOE, bc_ISE) (by simp [bc_IAE, bc_ISE, bc_UOE]) _ _ fU fS, ⟨by decide, by decide, by decide, _, _, hts _ gw_353, fU, Or.inl ⟨aU, rfl⟩⟩⟩⟩)
        refine ⟨10, ce, hce, z2, z3, z4, ?_⟩
        clear z1 z2 z3 z4 hce
        generalize H1 = H at hP hS ⊢
        refine lv_astore_n (lv' := [(1, .ref x), (0, .ref h)]) hx hb d_LA_confirm_10 rfl hl (by decide) rfl (fun ls hl => ?_)
        refine lv_iconst (v := 2) hx hb d_LA_confirm_11 (by decide) ?_
        exact W.iret (v := (2 : Int32)) hx hb hr (fun t ht hW => ⟨⟨(2 : Int32), (), rfl, by rw [hk9]; rfl, by rw [ht]; exact hP, va_K.moved hW.alike hK, hD⟩, hS.F ht⟩) hS.2.2 d_LA_confirm_12
-- LA_runs
theorem d_LA_runs_0 : decode method_8_code 0 = .ok (.aload_n 2, 1) := by decide +kernel
theorem d_LA_runs_1 : decode method_8_code 1 = .ok (.iconst 0, 1) := by decide +kernel
theorem d_LA_runs_2 : decode method_8_code 2 = .ok (.aload_n 0, 1) := by decide +kernel
theorem d_LA_runs_3 : decode method_8_code 3 = .ok (.iload_n 1, 1) := by decide +kernel
theorem d_LA_runs_4 : decode method_8_code 4 = .ok (.invokevirtual 34, 3) := by decide +kernel
theorem d_LA_runs_7 : decode method_8_code 7 = .ok (.i2l, 1) := by decide +kernel
theorem d_LA_runs_8 : decode method_8_code 8 = .ok (.lastore, 1) := by decide +kernel
theorem d_LA_runs_9 : decode method_8_code 9 = .ok (.goto 6, 3) := by decide +kernel
theorem d_LA_runs_12 : decode method_8_code 12 = .ok (.astore_n 3, 1) := by decide +kernel
theorem d_LA_runs_13 : decode method_8_code 13 = .ok (.iconst 1, 1) := by decide +kernel
theorem d_LA_runs_14 : decode method_8_code 14 = .ok (.ireturn, 1) := by decide +kernel
theorem d_LA_runs_15 : decode method_8_code 15 = .ok (.iconst 0, 1) := by decide +kernel
theorem d_LA_runs_16 : decode method_8_code 16 = .ok (.ireturn, 1) := by decide +kernel
def y_LA_runs : MethodName := ⟨"BootChainLaw", "runs", "(LBootChain;I[J)I"⟩
def ws_LA_runs : List Cond := .codeWith y_LA_runs method_8_code 4 (some .int) [(0, 9, 12, 13)] :: bc_G
set_option maxHeartbeats 4000000 in
set_option maxRecDepth 100000 in
theorem c_LA_runs (l : Launch) (hlt : l.stackTraces = false) (dC : Nat → ClassId) (dI : Nat → Nat → Nat) (cI cJ : ClassId) (h qf qd qi qs qr qc qg qh qo : Nat) (sz : Nat) (sg : Int32) (ru : Nat → Int32) (ov : Nat → Int64) (hk : (f_BC_runs sg ru).1 = 0 ∨ (f_BC_runs sg ru).1 = 1) : Met l y_LA_runs ws_LA_runs ({ frames := 7, cells := 1, slots := 6, locals := 121 } : Room) (va_Pc [.ref h, .int sg, .ref qo] (fun U => bc_pre (dC, dI) cI cJ [(h, .inr (0, [.ref qf, .ref qd, .ref qi, .ref qs, .ref qr, .ref qc, .ref qg, .ref qh])), (qr, .inl (cI, 2, .inl ru)), (qo, .inl (cJ, 1, .inr (.inl ov)))] sz U ∧ lw_N U)) (va_Qi (fun (r : Int32) (_ : Unit) => r = lwA (f_BC_runs sg ru).1) (fun _ => bc_post (dC, dI) cI cJ (va_A [(h, .inr (0, [.ref qf, .ref qd, .ref qi, .ref qs, .ref qr, .ref qc, .ref qg, .ref qh])), (qr, .inl (cI, 2, .inl ru)), (qo, .inl (cJ, 1, .inr (.inl ov)))] sz) [(h, .inr (0, [.ref qf, .ref qd, .ref qi, .ref qs, .ref qr, .ref qc, .ref qg, .ref qh])), (qr, .inl (cI, 2, .inl ru)), (qo, .inl (cJ, 1, .inr (.inl (lw_o (f_BC_runs sg ru).1 ((f_BC_runs sg ru).2) ov))))]) (va_A [(h, .inr (0, [.ref qf, .ref qd, .ref qi, .ref qs, .ref qr, .ref qc, .ref qg, .ref qh])), (qr, .inl (cI, 2, .inl ru)), (qo, .inl (cJ, 1, .inr (.inl ov)))] sz)) 1 6 (va_A [(h, .inr (0, [.ref qf, .ref qd, .ref qi, .ref qs, .ref qr, .ref qc, .ref qg, .ref qh])), (qr, .inl (cI, 2, .inl ru)), (qo, .inl (cJ, 1, .inr (.inl ov)))] sz) := by
  refine va_MetW (cc := method_8_code) (maxL := 4) (ret := some .int) (hh := [(0, 9, 12, 13)]) (by decide) rfl ?_
  intro p e s m args below meth c s₁ B hml hv
  obtain ⟨rfl, ⟨hsz, hP, hK, hD0, hE⟩, hN⟩ := hv
  have hx := B.exec
  have hb := B.bytes
  have hr := B.returns
  have hts : ∀ w ∈ bc_G, w.before ([.ref h, .int sg, .ref qo] : List Value).toArray s = true := fun w h => atoms_spec (ws := ws_LA_runs) B.pre w (List.mem_cons_of_mem _ h)
  have hown : s.vm.findClass "BootChainLaw" = some m.cls := findClass_of_methodNamed B.named
  have hht := lw_table B (atoms_spec (ws := ws_LA_runs) B.pre _ List.mem_cons_self)
  have hpl : e.platform.magicAccessors = ({} : Platform).magicAccessors := by rw [B.admits.platform]
  subst hsz
  have hD := hD0.self (sz := s.heap.size)
  generalize hAe : va_A [(h, .inr (0, [.ref qf, .ref qd, .ref qi, .ref qs, .ref qr, .ref qc, .ref qg, .ref qh])), (qr, .inl (cI, 2, .inl ru)), (qo, .inl (cJ, 1, .inr (.inl ov)))] s.heap.size = A at hD hE ⊢
  have hA : ∀ q : Nat, s.heap.size ≤ q → A q := fun q h => by rw [← hAe]; exact Or.inr h
  have hS : va_S A s.heap s.heap [] := va_S.rf
  obtain ⟨cA, cA2, fA, fA2, aA⟩ := Cond.castable_spec (va_Nw.use (A := ([.ref h, .int sg, .ref qo] : List Value).toArray) rfl (hE.2.2.2.2 (Cond.castable "java/lang/IllegalArgumentException" "java/lang/IllegalArgumentException") (List.mem_of_getElem? (i := 0) rfl)))
  cases fA.symm.trans fA2
  have hl := lv_entry ([.ref h, .int sg, .ref qo]) (n := 4) (Nat.le_of_ble_eq_true rfl)
  rw [lg_entry_eq]
  generalize (lg_sl ([.ref h, .int sg, .ref qo]) ++ List.replicate (4 - (lg_sl ([.ref h, .int sg, .ref qo])).length) Slot.unset).toArray = ls at hl ⊢
  have hl : lv_has ls 4 [(0, .ref h), (1, .int sg), (2, .ref qo)] := hl
  refine lv_aload_n hx hb d_LA_runs_0 rfl (lv_at hl 2 rfl) ?_
  refine lv_iconst (v := 0) hx hb d_LA_runs_1 (by decide) ?_
  refine lv_aload_n hx hb d_LA_runs_2 rfl (lv_at hl 0 rfl) ?_
  refine lv_iload_n hx hb d_LA_runs_3 rfl (lv_at hl 1 rfl) ?_
  have hPc := hP.sub (ws' := [(h, .inr (0, [.ref qf, .ref qd, .ref qi, .ref qs, .ref qr, .ref qc, .ref qg, .ref qh])), (qr, .inl (cI, 2, .inl ru))]) [0, 1] rfl
  have hDc := hD.sub (ws' := [(h, .inr (0, [.ref qf, .ref qd, .ref qi, .ref qs, .ref qr, .ref qc, .ref qg, .ref qh])), (qr, .inl (cI, 2, .inl ru))]) [0, 1] (by decide) rfl
  have hFc := va_free (wc := [(h, .inr (0, [.ref qf, .ref qd, .ref qi, .ref qs, .ref qr, .ref qc, .ref qg, .ref qh])), (qr, .inl (cI, 2, .inl ru))]) hD hS hA [0, 1] rfl
  refine tx_callW (own := "BootChainLaw") (lw_runV (As := [.int sg]) (rest := [.int (0 : Int32), .ref qo]) ⟨hx, hb, hml, hown, hts⟩ (c_BC_runs l hlt dC dI cI cJ h qf qd qi qs qr qc qg qh _ sg ru) ⟨callB_of 1 hts (bc_good gw_391) rfl rfl rfl (hts _ gw_1) (hts _ gw_388) (by decide +kernel) ⟨Nat.le_of_ble_eq_true rfl, Nat.le_of_ble_eq_true rfl⟩, (hts _ gw_389), (hts _ gw_390)⟩ ⟨bc_blind, va_recv (q0 := 0) hK hP (q := (R_BC, F_BC, 8)) rfl rfl, fun U hU hW => ⟨rfl, bc_give hPc hDc hK hE hS hFc U hU hW⟩⟩ rfl rfl hl.1 rfl (lv_room (Nat.le_of_ble_eq_true rfl)) d_LA_runs_4 ⟨Nat.le_of_ble_eq_true rfl, Nat.le_of_ble_eq_true rfl⟩) hown (fun v st₀ t H1 L h0 ht hvm hq hL => ?_) (fun x st₀ t H1 L h0 ht hvm hq hL => ?_)
  · obtain ⟨hal, hout, hB, hz1, hk1⟩ := hq
    rcases hout with ⟨hk0, hv⟩ | ⟨x9, ce, nm, hv, -⟩
    · cases hv
      rw [h0] at hz1 hk1
      rw [ht] at hz1 hk1
      obtain ⟨hP, hD⟩ := va_join (wr := [(qo, .inl (cJ, 1, .inr (.inl ov)))]) (w1 := [(h, .inr (0, [.ref qf, .ref qd, .ref qi, .ref qs, .ref qr, .ref qc, .ref qg, .ref qh])), (qr, .inl (cI, 2, .inl ru))]) hP hD [0, 1] [2] rfl rfl (by decide) (by decide) hk1 hFc (ht ▸ hB.1) hB.2.2
      have hS := lw_S hS hz1 hk1 hFc hL
      have hP := hP.sub (ws' := [(h, .inr (0, [.ref qf, .ref qd, .ref qi, .ref qs, .ref qr, .ref qc, .ref qg, .ref qh])), (qr, .inl (cI, 2, .inl ru)), (qo, .inl (cJ, 1, .inr (.inl ov)))]) [1, 2, 0] rfl
      have hD := hD.sub (ws' := [(h, .inr (0, [.ref qf, .ref qd, .ref qi, .ref qs, .ref qr, .ref qc, .ref qg, .ref qh])), (qr, .inl (cI, 2, .inl ru)), (qo, .inl (cJ, 1, .inr (.inl ov)))]) [1, 2, 0] (by decide) rfl
      generalize H1 = H at hP hS ⊢
      refine lv_i2l (v := ((((f_BC_runs sg ru).2)).toInt64)) hx hb d_LA_runs_7 rfl ?_
      refine va_last hx hb hK hP hD hS 2 1 rfl rfl (by unfold vp_in; decide +kernel) d_LA_runs_8 (fun H locs hP hD hS => ?_)
      refine lv_goto (tgt := 15) hx hb d_LA_runs_9 (by decide) ?_
      refine lv_iconst (v := 0) hx hb d_LA_runs_15 (by decide) ?_
      have hP : va_P (dC, dI) classes [(h, .inr (0, [.ref qf, .ref qd, .ref qi, .ref qs, .ref qr, .ref qc, .ref qg, .ref qh])), (qr, .inl (cI, 2, .inl ru)), (qo, .inl (cJ, 1, .inr (.inl (lw_o (f_BC_runs sg ru).1 ((f_BC_runs sg ru).2) ov))))] H := by rw [lw_o_0 hk0]; exact hP
      have hD : va_D A [(h, .inr (0, [.ref qf, .ref qd, .ref qi, .ref qs, .ref qr, .ref qc, .ref qg, .ref qh])), (qr, .inl (cI, 2, .inl ru)), (qo, .inl (cJ, 1, .inr (.inl (lw_o (f_BC_runs sg ru).1 ((f_BC_runs sg ru).2) ov))))] := by rw [lw_o_0 hk0]; exact hD
      exact W.iret (v := (0 : Int32)) hx hb hr (fun t ht hW => ⟨⟨(0 : Int32), (), rfl, by rw [hk0]; rfl, by rw [ht]; exact hP, va_K.moved hW.alike hK, hD⟩, hS.F ht⟩) hS.2.2 d_LA_runs_16
    · cases hv
  · obtain ⟨hal, hout, hB, hz1, hk1⟩ := hq
    rcases hout with ⟨hk0, hv⟩ | ⟨x9, ce, nm, hv, hex, hce, hvn, hfc, -⟩
    · cases hv
    · cases hv
      rw [ht] at hce
      rw [h0] at hz1 hk1
      rw [ht] at hz1 hk1
      obtain ⟨hP, hD⟩ := va_join (wr := [(qo, .inl (cJ, 1, .inr (.inl ov)))]) (w1 := [(h, .inr (0, [.ref qf, .ref qd, .ref qi, .ref qs, .ref qr, .ref qc, .ref qg, .ref qh])), (qr, .inl (cI, 2, .inl ru))]) hP hD [0, 1] [2] rfl rfl (by decide) (by decide) hk1 hFc (ht ▸ hB.1) hB.2.2
      have hS := lw_S hS hz1 hk1 hFc hL
      have hP := hP.sub (ws' := [(h, .inr (0, [.ref qf, .ref qd, .ref qi, .ref qs, .ref qr, .ref qc, .ref qg, .ref qh])), (qr, .inl (cI, 2, .inl ru)), (qo, .inl (cJ, 1, .inr (.inl ov)))]) [1, 2, 0] rfl
      have hD := hD.sub (ws' := [(h, .inr (0, [.ref qf, .ref qd, .ref qi, .ref qs, .ref qr, .ref qc, .ref qg, .ref qh])), (qr, .inl (cI, 2, .inl ru)), (qo, .inl (cJ, 1, .inr (.inl ov)))]) [1, 2, 0] (by decide) rfl
      rcases hex with ⟨hk9, rfl⟩ | ⟨hk9, rfl⟩ | ⟨hk9, rfl⟩
      · obtain ⟨z1, z2, z3, z4⟩ := lw_hit (e := e) (t := t) (ix := 13) (pc := 4) (hpc := 12) hal hown (hts _ gw_112) hpl (by rw [ht]; exact hce) hvn hfc hht (fun hf => by
          cases (show some cA = some ce.cls from fA.symm.trans hf)
          exact ⟨by decide, by decide, by decide, _, _, hts _ gw_112, fA, Or.inl ⟨aA, rfl⟩⟩)
        refine ⟨12, ce, hce, z2, z3, z4, ?_⟩
        clear z1 z2 z3 z4 hce
        generalize H1 = H at hP hS ⊢
        refine lv_astore_n (lv' := [(3, .ref x), (0, .ref h), (1, .int sg), (2, .ref qo)]) hx hb d_LA_runs_12 rfl hl (by decide) rfl (fun ls hl => ?_)
        refine lv_iconst (v := 1) hx hb d_LA_runs_13 (by decide) ?_
        have hP : va_P (dC, dI) classes [(h, .inr (0, [.ref qf, .ref qd, .ref qi, .ref qs, .ref qr, .ref qc, .ref qg, .ref qh])), (qr, .inl (cI, 2, .inl ru)), (qo, .inl (cJ, 1, .inr (.inl (lw_o (f_BC_runs sg ru).1 ((f_BC_runs sg ru).2) ov))))] H := by rw [lw_o_n (by omega)]; exact hP
        have hD : va_D A [(h, .inr (0, [.ref qf, .ref qd, .ref qi, .ref qs, .ref qr, .ref qc, .ref qg, .ref qh])), (qr, .inl (cI, 2, .inl ru)), (qo, .inl (cJ, 1, .inr (.inl (lw_o (f_BC_runs sg ru).1 ((f_BC_runs sg ru).2) ov))))] := by rw [lw_o_n (by omega)]; exact hD
        exact W.iret (v := (1 : Int32)) hx hb hr (fun t ht hW => ⟨⟨(1 : Int32), (), rfl, by rw [hk9]; rfl, by rw [ht]; exact hP, va_K.moved hW.alike hK, hD⟩, hS.F ht⟩) hS.2.2 d_LA_runs_14
      · exfalso; omega
      · exfalso; omega
-- LA_spoil
theorem d_LA_spoil_0 : decode method_9_code 0 = .ok (.aload_n 0, 1) := by decide +kernel
theorem d_LA_spoil_1 : decode method_9_code 1 = .ok (.iload_n 1, 1) := by decide +kernel
theorem d_LA_spoil_2 : decode method_9_code 2 = .ok (.iload_n 2, 1) := by decide +kernel
theorem d_LA_spoil_3 : decode method_9_code 3 = .ok (.iload_n 3, 1) := by decide +kernel
theorem d_LA_spoil_4 : decode method_9_code 4 = .ok (.invokevirtual 38, 3) := by decide +kernel
theorem d_LA_spoil_7 : decode method_9_code 7 = .ok (.goto 7, 3) := by decide +kernel
theorem d_LA_spoil_10 : decode method_9_code 10 = .ok (.astore 4, 2) := by decide +kernel
theorem d_LA_spoil_12 : decode method_9_code 12 = .ok (.iconst 1, 1) := by decide +kernel
theorem d_LA_spoil_13 : decode method_9_code 13 = .ok (.ireturn, 1) := by decide +kernel
theorem d_LA_spoil_14 : decode method_9_code 14 = .ok (.iconst 0, 1) := by decide +kernel
theorem d_LA_spoil_15 : decode method_9_code 15 = .ok (.ireturn, 1) := by decide +kernel
def y_LA_spoil : MethodName := ⟨"BootChainLaw", "spoil", "(LBootChain;III)I"⟩
def ws_LA_spoil : List Cond := .codeWith y_LA_spoil method_9_code 5 (some .int) [(0, 7, 10, 13)] :: bc_G
set_option maxHeartbeats 4000000 in
set_option maxRecDepth 100000 in
theorem c_LA_spoil (l : Launch) (hlt : l.stackTraces = false) (dC : Nat → ClassId) (dI : Nat → Nat → Nat) (cI cJ : ClassId) (h qf qd qi qs qr qc qg qh qfw : Nat) (sz : Nat) (pl : Int32) (wd : Int32) (bi : Int32) (wl : Int32) (fw : Nat → Int32) (hk : (f_BC_spoil pl wd bi wl fw).1 = 0 ∨ (f_BC_spoil pl wd bi wl fw).1 = 1) : Met l y_LA_spoil ws_LA_spoil ({ frames := 7, cells := 1, slots := 6, locals := 123 } : Room) (va_Pc [.ref h, .int pl, .int wd, .int bi] (fun U => bc_pre (dC, dI) cI cJ [(h, .inr (0, [.ref qf, .ref qd, .ref qi, .ref qs, .ref qr, .ref qc, .ref qg, .ref qh])), (qf, .inr (1, [.ref qfw, .int wl])), (qfw, .inl (cI, 70, .inl fw))] sz U ∧ lw_N U)) (va_Qi (fun (r : Int32) (_ : Unit) => r = lwA (f_BC_spoil pl wd bi wl fw).1) (fun _ => bc_post (dC, dI) cI cJ (va_A [(h, .inr (0, [.ref qf, .ref qd, .ref qi, .ref qs, .ref qr, .ref qc, .ref qg, .ref qh])), (qf, .inr (1, [.ref qfw, .int wl])), (qfw, .inl (cI, 70, .inl fw))] sz) [(h, .inr (0, [.ref qf, .ref qd, .ref qi, .ref qs, .ref qr, .ref qc, .ref qg, .ref qh])), (qf, .inr (1, [.ref qfw, .int wl])), (qfw, .inl (cI, 70, .inl (f_BC_spoil pl wd bi wl fw).2))]) (va_A [(h, .inr (0, [.ref qf, .ref qd, .ref qi, .ref qs, .ref qr, .ref qc, .ref qg, .ref qh])), (qf, .inr (1, [.ref qfw, .int wl])), (qfw, .inl (cI, 70, .inl fw))] sz)) 1 6 (va_A [(h, .inr (0, [.ref qf, .ref qd, .ref qi, .ref qs, .ref qr, .ref qc, .ref qg, .ref qh])), (qf, .inr (1, [.ref qfw, .int wl])), (qfw, .inl (cI, 70, .inl fw))] sz) := by
  refine va_MetW (cc := method_9_code) (maxL := 5) (ret := some .int) (hh := [(0, 7, 10, 13)]) (by decide) rfl ?_
  intro p e s m args below meth c s₁ B hml hv
  obtain ⟨rfl, ⟨hsz, hP, hK, hD0, hE⟩, hN⟩ := hv
  have hx := B.exec
  have hb := B.bytes
  have hr := B.returns
  have hts : ∀ w ∈ bc_G, w.before ([.ref h, .int pl, .int wd, .int bi] : List Value).toArray s = true := fun w h => atoms_spec (ws := ws_LA_spoil) B.pre w (List.mem_cons_of_mem _ h)
  have hown : s.vm.findClass "BootChainLaw" = some m.cls := findClass_of_methodNamed B.named
  have hht := lw_table B (atoms_spec (ws := ws_LA_spoil) B.pre _ List.mem_cons_self)
  have hpl : e.platform.magicAccessors = ({} : Platform).magicAccessors := by rw [B.admits.platform]
  subst hsz
  have hD := hD0.self (sz := s.heap.size)
  generalize hAe : va_A [(h, .inr (0, [.ref qf, .ref qd, .ref qi, .ref qs, .ref qr, .ref qc, .ref qg, .ref qh])), (qf, .inr (1, [.ref qfw, .int wl])), (qfw, .inl (cI, 70, .inl fw))] s.heap.size = A at hD hE ⊢
  have hA : ∀ q : Nat, s.heap.size ≤ q → A q := fun q h => by rw [← hAe]; exact Or.inr h
  have hS : va_S A s.heap s.heap [] := va_S.rf
  obtain ⟨cA, cA2, fA, fA2, aA⟩ := Cond.castable_spec (va_Nw.use (A := ([.ref h, .int pl, .int wd, .int bi] : List Value).toArray) rfl (hE.2.2.2.2 (Cond.castable "java/lang/IllegalArgumentException" "java/lang/IllegalArgumentException") (List.mem_of_getElem? (i := 0) rfl)))
  cases fA.symm.trans fA2
  have hl := lv_entry ([.ref h, .int pl, .int wd, .int bi]) (n := 5) (Nat.le_of_ble_eq_true rfl)
  rw [lg_entry_eq]
  generalize (lg_sl ([.ref h, .int pl, .int wd, .int bi]) ++ List.replicate (5 - (lg_sl ([.ref h, .int pl, .int wd, .int bi])).length) Slot.unset).toArray = ls at hl ⊢
  have hl : lv_has ls 5 [(0, .ref h), (1, .int pl), (2, .int wd), (3, .int bi)] := hl
  refine lv_aload_n hx hb d_LA_spoil_0 rfl (lv_at hl 0 rfl) ?_
  refine lv_iload_n hx hb d_LA_spoil_1 rfl (lv_at hl 1 rfl) ?_
  refine lv_iload_n hx hb d_LA_spoil_2 rfl (lv_at hl 2 rfl) ?_
  refine lv_iload_n hx hb d_LA_spoil_3 rfl (lv_at hl 3 rfl) ?_
  have hPc := hP.sub (ws' := [(h, .inr (0, [.ref qf, .ref qd, .ref qi, .ref qs, .ref qr, .ref qc, .ref qg, .ref qh])), (qf, .inr (1, [.ref qfw, .int wl])), (qfw, .inl (cI, 70, .inl fw))]) [0, 1, 2] rfl
  have hDc := hD.sub (ws' := [(h, .inr (0, [.ref qf, .ref qd, .ref qi, .ref qs, .ref qr, .ref qc, .ref qg, .ref qh])), (qf, .inr (1, [.ref qfw, .int wl])), (qfw, .inl (cI, 70, .inl fw))]) [0, 1, 2] (by decide) rfl
  have hFc := va_free (wc := [(h, .inr (0, [.ref qf, .ref qd, .ref qi, .ref qs, .ref qr, .ref qc, .ref qg, .ref qh])), (qf, .inr (1, [.ref qfw, .int wl])), (qfw, .inl (cI, 70, .inl fw))]) hD hS hA [0, 1, 2] rfl
  refine tx_callW (own := "BootChainLaw") (lw_runV (As := [.int pl, .int wd, .int bi]) (rest := []) ⟨hx, hb, hml, hown, hts⟩ (c_BC_spoil l hlt dC dI cI cJ h qf qd qi qs qr qc qg qh qfw _ pl wd bi wl fw) ⟨callB_of 3 hts (bc_good gw_397) rfl rfl rfl (hts _ gw_1) (hts _ gw_394) (by decide +kernel) ⟨Nat.le_of_ble_eq_true rfl, Nat.le_of_ble_eq_true rfl⟩, (hts _ gw_395), (hts _ gw_396)⟩ ⟨bc_blind, va_recv (q0 := 0) hK hP (q := (R_BC, F_BC, 8)) rfl rfl, fun U hU hW => ⟨rfl, bc_give hPc hDc hK hE hS hFc U hU hW⟩⟩ rfl rfl hl.1 rfl (lv_room (Nat.le_of_ble_eq_true rfl)) d_LA_spoil_4 ⟨Nat.le_of_ble_eq_true rfl, Nat.le_of_ble_eq_true rfl⟩) hown (fun v st₀ t H1 L h0 ht hvm hq hL => ?_) (fun x st₀ t H1 L h0 ht hvm hq hL => ?_)
  · obtain ⟨hal, hout, hB, hz1, hk1⟩ := hq
    rcases hout with ⟨hk0, hv⟩ | ⟨x9, ce, nm, hv, -⟩
    · cases hv
      rw [h0] at hz1 hk1
      rw [ht] at hz1 hk1
      obtain ⟨hP, hD⟩ := va_join (wr := []) (w1 := [(h, .inr (0, [.ref qf, .ref qd, .ref qi, .ref qs, .ref qr, .ref qc, .ref qg, .ref qh])), (qf, .inr (1, [.ref qfw, .int wl])), (qfw, .inl (cI, 70, .inl (f_BC_spoil pl wd bi wl fw).2))]) hP hD [0, 1, 2] [] rfl rfl (by decide) (by decide) hk1 hFc (ht ▸ hB.1) hB.2.2
      have hS := lw_S hS hz1 hk1 hFc hL
      have hP := hP.sub (ws' := [(h, .inr (0, [.ref qf, .ref qd, .ref qi, .ref qs, .ref qr, .ref qc, .ref qg, .ref qh])), (qf, .inr (1, [.ref qfw, .int wl])), (qfw, .inl (cI, 70, .inl (f_BC_spoil pl wd bi wl fw).2))]) [0, 1, 2] rfl
      have hD := hD.sub (ws' := [(h, .inr (0, [.ref qf, .ref qd, .ref qi, .ref qs, .ref qr, .ref qc, .ref qg, .ref qh])), (qf, .inr (1, [.ref qfw, .int wl])), (qfw, .inl (cI, 70, .inl (f_BC_spoil pl wd bi wl fw).2))]) [0, 1, 2] (by decide) rfl
      generalize H1 = H at hP hS ⊢
      refine lv_goto (tgt := 14) hx hb d_LA_spoil_7 (by decide) ?_
      refine lv_iconst (v := 0) hx hb d_LA_spoil_14 (by decide) ?_
      exact W.iret (v := (0 : Int32)) hx hb hr (fun t ht hW => ⟨⟨(0 : Int32), (), rfl, by rw [hk0]; rfl, by rw [ht]; exact hP, va_K.moved hW.alike hK, hD⟩, hS.F ht⟩) hS.2.2 d_LA_spoil_15
    · cases hv
  · obtain ⟨hal, hout, hB, hz1, hk1⟩ := hq
    rcases hout with ⟨hk0, hv⟩ | ⟨x9, ce, nm, hv, hex, hce, hvn, hfc, -⟩
    · cases hv
    · cases hv
      rw [ht] at hce
      rw [h0] at hz1 hk1
      rw [ht] at hz1 hk1
      obtain ⟨hP, hD⟩ := va_join (wr := []) (w1 := [(h, .inr (0, [.ref qf, .ref qd, .ref qi, .ref qs, .ref qr, .ref qc, .ref qg, .ref qh])), (qf, .inr (1, [.ref qfw, .int wl])), (qfw, .inl (cI, 70, .inl (f_BC_spoil pl wd bi wl fw).2))]) hP hD [0, 1, 2] [] rfl rfl (by decide) (by decide) hk1 hFc (ht ▸ hB.1) hB.2.2
      have hS := lw_S hS hz1 hk1 hFc hL
      have hP := hP.sub (ws' := [(h, .inr (0, [.ref qf, .ref qd, .ref qi, .ref qs, .ref qr, .ref qc, .ref qg, .ref qh])), (qf, .inr (1, [.ref qfw, .int wl])), (qfw, .inl (cI, 70, .inl (f_BC_spoil pl wd bi wl fw).2))]) [0, 1, 2] rfl
      have hD := hD.sub (ws' := [(h, .inr (0, [.ref qf, .ref qd, .ref qi, .ref qs, .ref qr, .ref qc, .ref qg, .ref qh])), (qf, .inr (1, [.ref qfw, .int wl])), (qfw, .inl (cI, 70, .inl (f_BC_spoil pl wd bi wl fw).2))]) [0, 1, 2] (by decide) rfl
      rcases hex with ⟨hk9, rfl⟩ | ⟨hk9, rfl⟩ | ⟨hk9, rfl⟩
      · obtain ⟨z1, z2, z3, z4⟩ := lw_hit (e := e) (t := t) (ix := 13) (pc := 4) (hpc := 10) hal hown (hts _ gw_112) hpl (by rw [ht]; exact hce) hvn hfc hht (fun hf => by
          cases (show some cA = some ce.cls from fA.symm.trans hf)
          exact ⟨by decide, by decide, by decide, _, _, hts _ gw_112, fA, Or.inl ⟨aA, rfl⟩⟩)
        refine ⟨10, ce, hce, z2, z3, z4, ?_⟩
        clear z1 z2 z3 z4 hce
        generalize H1 = H at hP hS ⊢
        refine lv_astore (lv' := [(4, .ref x), (0, .ref h), (1, .int pl), (2, .int wd), (3, .int bi)]) hx hb d_LA_spoil_10 hl (by decide) rfl (fun ls hl => ?_)
        refine lv_iconst (v := 1) hx hb d_LA_spoil_12 (by decide) ?_
        exact W.iret (v := (1 : Int32)) hx hb hr (fun t ht hW => ⟨⟨(1 : Int32), (), rfl, by rw [hk9]; rfl, by rw [ht]; exact hP, va_K.moved hW.alike hK, hD⟩, hS.F ht⟩) hS.2.2 d_LA_spoil_13
      · exfalso; omega
      · exfalso; omega
-- LA_flash
theorem d_LA_flash_0 : decode method_10_code 0 = .ok (.aload_n 3, 1) := by decide +kernel
theorem d_LA_flash_1 : decode method_10_code 1 = .ok (.iconst 0, 1) := by decide +kernel
theorem d_LA_flash_2 : decode method_10_code 2 = .ok (.aload_n 0, 1) := by decide +kernel
theorem d_LA_flash_3 : decode method_10_code 3 = .ok (.iload_n 1, 1) := by decide +kernel
theorem d_LA_flash_4 : decode method_10_code 4 = .ok (.iload_n 2, 1) := by decide +kernel
theorem d_LA_flash_5 : decode method_10_code 5 = .ok (.invokevirtual 42, 3) := by decide +kernel
theorem d_LA_flash_8 : decode method_10_code 8 = .ok (.i2l, 1) := by decide +kernel
theorem d_LA_flash_9 : decode method_10_code 9 = .ok (.lastore, 1) := by decide +kernel
theorem d_LA_flash_10 : decode method_10_code 10 = .ok (.goto 7, 3) := by decide +kernel
theorem d_LA_flash_13 : decode method_10_code 13 = .ok (.astore 4, 2) := by decide +kernel
theorem d_LA_flash_15 : decode method_10_code 15 = .ok (.iconst 1, 1) := by decide +kernel
theorem d_LA_flash_16 : decode method_10_code 16 = .ok (.ireturn, 1) := by decide +kernel
theorem d_LA_flash_17 : decode method_10_code 17 = .ok (.iconst 0, 1) := by decide +kernel
theorem d_LA_flash_18 : decode method_10_code 18 = .ok (.ireturn, 1) := by decide +kernel
def y_LA_flash : MethodName := ⟨"BootChainLaw", "flash", "(LBootChain;II[J)I"⟩
def ws_LA_flash : List Cond := .codeWith y_LA_flash method_10_code 5 (some .int) [(0, 10, 13, 13)] :: bc_G
set_option maxHeartbeats 4000000 in
set_option maxRecDepth 100000 in
theorem c_LA_flash (l : Launch) (hlt : l.stackTraces = false) (dC : Nat → ClassId) (dI : Nat → Nat → Nat) (cI cJ : ClassId) (h qf qd qi qs qr qc qg qh qfw qo : Nat) (sz : Nat) (pl : Int32) (wd : Int32) (wl : Int32) (fw : Nat → Int32) (ov : Nat → Int64) (hk : (f_BC_flash pl wd wl fw).1 = 0 ∨ (f_BC_flash pl wd wl fw).1 = 1) : Met l y_LA_flash ws_LA_flash ({ frames := 7, cells := 1, slots := 6, locals := 122 } : Room) (va_Pc [.ref h, .int pl, .int wd, .ref qo] (fun U => bc_pre (dC, dI) cI cJ [(h, .inr (0, [.ref qf, .ref qd, .ref qi, .ref qs, .ref qr, .ref qc, .ref qg, .ref qh])), (qf, .inr (1, [.ref qfw, .int wl])), (qfw, .inl (cI, 70, .inl fw)), (qo, .inl (cJ, 1, .inr (.inl ov)))] sz U ∧ lw_N U)) (va_Qi (fun (r : Int32) (_ : Unit) => r = lwA (f_BC_flash pl wd wl fw).1) (fun _ => bc_post (dC, dI) cI cJ (va_A [(h, .inr (0, [.ref qf, .ref qd, .ref qi, .ref qs, .ref qr, .ref qc, .ref qg, .ref qh])), (qf, .inr (1, [.ref qfw, .int wl])), (qfw, .inl (cI, 70, .inl fw)), (qo, .inl (cJ, 1, .inr (.inl ov)))] sz) [(h, .inr (0, [.ref qf, .ref qd, .ref qi, .ref qs, .ref qr, .ref qc, .ref qg, .ref qh])), (qf, .inr (1, [.ref qfw, .int wl])), (qfw, .inl (cI, 70, .inl fw)), (qo, .inl (cJ, 1, .inr (.inl (lw_o (f_BC_flash pl wd wl fw).1 ((f_BC_flash pl wd wl fw).2) ov))))]) (va_A [(h, .inr (0, [.ref qf, .ref qd, .ref qi, .ref qs, .ref qr, .ref qc, .ref qg, .ref qh])), (qf, .inr (1, [.ref qfw, .int wl])), (qfw, .inl (cI, 70, .inl fw)), (qo, .inl (cJ, 1, .inr (.inl ov)))] sz)) 1 6 (va_A [(h, .inr (0, [.ref qf, .ref qd, .ref qi, .ref qs, .ref qr, .ref qc, .ref qg, .ref qh])), (qf, .inr (1, [.ref qfw, .int wl])), (qfw, .inl (cI, 70, .inl fw)), (qo, .inl (cJ, 1, .inr (.inl ov)))] sz) := by
  refine va_MetW (cc := method_10_code) (maxL := 5) (ret := some .int) (hh := [(0, 10, 13, 13)]) (by decide) rfl ?_
  intro p e s m args below meth c s₁ B hml hv
  obtain ⟨rfl, ⟨hsz, hP, hK, hD0, hE⟩, hN⟩ := hv
  have hx := B.exec
  have hb := B.bytes
  have hr := B.returns
  have hts : ∀ w ∈ bc_G, w.before ([.ref h, .int pl, .int wd, .ref qo] : List Value).toArray s = true := fun w h => atoms_spec (ws := ws_LA_flash) B.pre w (List.mem_cons_of_mem _ h)
  have hown : s.vm.findClass "BootChainLaw" = some m.cls := findClass_of_methodNamed B.named
  have hht := lw_table B (atoms_spec (ws := ws_LA_flash) B.pre _ List.mem_cons_self)
  have hpl : e.platform.magicAccessors = ({} : Platform).magicAccessors := by rw [B.admits.platform]
  subst hsz
  have hD := hD0.self (sz := s.heap.size)
  generalize hAe : va_A [(h, .inr (0, [.ref qf, .ref qd, .ref qi, .ref qs, .ref qr, .ref qc, .ref qg, .ref qh])), (qf, .inr (1, [.ref qfw, .int wl])), (qfw, .inl (cI, 70, .inl fw)), (qo, .inl (cJ, 1, .inr (.inl ov)))] s.heap.size = A at hD hE ⊢
  have hA : ∀ q : Nat, s.heap.size ≤ q → A q := fun q h => by rw [← hAe]; exact Or.inr h
  have hS : va_S A s.heap s.heap [] := va_S.rf
  obtain ⟨cA, cA2, fA, fA2, aA⟩ := Cond.castable_spec (va_Nw.use (A := ([.ref h, .int pl, .int wd, .ref qo] : List Value).toArray) rfl (hE.2.2.2.2 (Cond.castable "java/lang/IllegalArgumentException" "java/lang/IllegalArgumentException") (List.mem_of_getElem? (i := 0) rfl)))
  cases fA.symm.trans fA2
  have hl := lv_entry ([.ref h, .int pl, .int wd, .ref qo]) (n := 5) (Nat.le_of_ble_eq_true rfl)
  rw [lg_entry_eq]
  generalize (lg_sl ([.ref h, .int pl, .int wd, .ref qo]) ++ List.replicate (5 - (lg_sl ([.ref h, .int pl, .int wd, .ref qo])).length) Slot.unset).toArray = ls at hl ⊢
  have hl : lv_has ls 5 [(0, .ref h), (1, .int pl), (2, .int wd), (3, .ref qo)] := hl
  refine lv_aload_n hx hb d_LA_flash_0 rfl (lv_at hl 3 rfl) ?_
  refine lv_iconst (v := 0) hx hb d_LA_flash_1 (by decide) ?_
  refine lv_aload_n hx hb d_LA_flash_2 rfl (lv_at hl 0 rfl) ?_
  refine lv_iload_n hx hb d_LA_flash_3 rfl (lv_at hl 1 rfl) ?_
  refine lv_iload_n hx hb d_LA_flash_4 rfl (lv_at hl 2 rfl) ?_
  have hPc := hP.sub (ws' := [(h, .inr (0, [.ref qf, .ref qd, .ref qi, .ref qs, .ref qr, .ref qc, .ref qg, .ref qh])), (qf, .inr (1, [.ref qfw, .int wl])), (qfw, .inl (cI, 70, .inl fw))]) [0, 1, 2] rfl
  have hDc := hD.sub (ws' := [(h, .inr (0, [.ref qf, .ref qd, .ref qi, .ref qs, .ref qr, .ref qc, .ref qg, .ref qh])), (qf, .inr (1, [.ref qfw, .int wl])), (qfw, .inl (cI, 70, .inl fw))]) [0, 1, 2] (by decide) rfl
  have hFc := va_free (wc := [(h, .inr (0, [.ref qf, .ref qd, .ref qi, .ref qs, .ref qr, .ref qc, .ref qg, .ref qh])), (qf, .inr (1, [.ref qfw, .int wl])), (qfw, .inl (cI, 70, .inl fw))]) hD hS hA [0, 1, 2] rfl
  refine tx_callW (own := "BootChainLaw") (lw_runV (As := [.int pl, .int wd]) (rest := [.int (0 : Int32), .ref qo]) ⟨hx, hb, hml, hown, hts⟩ (c_BC_flash l hlt dC dI cI cJ h qf qd qi qs qr qc qg qh qfw _ pl wd wl fw) ⟨callB_of 2 hts (bc_good gw_410) rfl rfl rfl (hts _ gw_1) (hts _ gw_407) (by decide +kernel) ⟨Nat.le_of_ble_eq_true rfl, Nat.le_of_ble_eq_true rfl⟩, (hts _ gw_408), (hts _ gw_409)⟩ ⟨bc_blind, va_recv (q0 := 0) hK hP (q := (R_BC, F_BC, 8)) rfl rfl, fun U hU hW => ⟨rfl, bc_give hPc hDc hK hE hS hFc U hU hW⟩⟩ rfl rfl hl.1 rfl (lv_room (Nat.le_of_ble_eq_true rfl)) d_LA_flash_5 ⟨Nat.le_of_ble_eq_true rfl, Nat.le_of_ble_eq_true rfl⟩) hown (fun v st₀ t H1 L h0 ht hvm hq hL => ?_) (fun x st₀ t H1 L h0 ht hvm hq hL => ?_)
  · obtain ⟨hal, hout, hB, hz1, hk1⟩ := hq
    rcases hout with ⟨hk0, hv⟩ | ⟨x9, ce, nm, hv, -⟩
    · cases hv
      rw [h0] at hz1 hk1
      rw [ht] at hz1 hk1
      obtain ⟨hP, hD⟩ := va_join (wr := [(qo, .inl (cJ, 1, .inr (.inl ov)))]) (w1 := [(h, .inr (0, [.ref qf, .ref qd, .ref qi, .ref qs, .ref qr, .ref qc, .ref qg, .ref qh])), (qf, .inr (1, [.ref qfw, .int wl])), (qfw, .inl (cI, 70, .inl fw))]) hP hD [0, 1, 2] [3] rfl rfl (by decide) (by decide) hk1 hFc (ht ▸ hB.1) hB.2.2
      have hS := lw_S hS hz1 hk1 hFc hL
      have hP := hP.sub (ws' := [(h, .inr (0, [.ref qf, .ref qd, .ref qi, .ref qs, .ref qr, .ref qc, .ref qg, .ref qh])), (qf, .inr (1, [.ref qfw, .int wl])), (qfw, .inl (cI, 70, .inl fw)), (qo, .inl (cJ, 1, .inr (.inl ov)))]) [1, 2, 3, 0] rfl
      have hD := hD.sub (ws' := [(h, .inr (0, [.ref qf, .ref qd, .ref qi, .ref qs, .ref qr, .ref qc, .ref qg, .ref qh])), (qf, .inr (1, [.ref qfw, .int wl])), (qfw, .inl (cI, 70, .inl fw)), (qo, .inl (cJ, 1, .inr (.inl ov)))]) [1, 2, 3, 0] (by decide) rfl
      generalize H1 = H at hP hS ⊢
      refine lv_i2l (v := ((((f_BC_flash pl wd wl fw).2)).toInt64)) hx hb d_LA_flash_8 rfl ?_
      refine va_last hx hb hK hP hD hS 3 1 rfl rfl (by unfold vp_in; decide +kernel) d_LA_flash_9 (fun H locs hP hD hS => ?_)
      refine lv_goto (tgt := 17) hx hb d_LA_flash_10 (by decide) ?_
      refine lv_iconst (v := 0) hx hb d_LA_flash_17 (by decide) ?_
      have hP : va_P (dC, dI) classes [(h, .inr (0, [.ref qf, .ref qd, .ref qi, .ref qs, .ref qr, .ref qc, .ref qg, .ref qh])), (qf, .inr (1, [.ref qfw, .int wl])), (qfw, .inl (cI, 70, .inl fw)), (qo, .inl (cJ, 1, .inr (.inl (lw_o (f_BC_flash pl wd wl fw).1 ((f_BC_flash pl wd wl fw).2) ov))))] H := by rw [lw_o_0 hk0]; exact hP
      have hD : va_D A [(h, .inr (0, [.ref qf, .ref qd, .ref qi, .ref qs, .ref qr, .ref qc, .ref qg, .ref qh])), (qf, .inr (1, [.ref qfw, .int wl])), (qfw, .inl (cI, 70, .inl fw)), (qo, .inl (cJ, 1, .inr (.inl (lw_o (f_BC_flash pl wd wl fw).1 ((f_BC_flash pl wd wl fw).2) ov))))] := by rw [lw_o_0 hk0]; exact hD
      exact W.iret (v := (0 : Int32)) hx hb hr (fun t ht hW => ⟨⟨(0 : Int32), (), rfl, by rw [hk0]; rfl, by rw [ht]; exact hP, va_K.moved hW.alike hK, hD⟩, hS.F ht⟩) hS.2.2 d_LA_flash_18
    · cases hv
  · obtain ⟨hal, hout, hB, hz1, hk1⟩ := hq
    rcases hout with ⟨hk0, hv⟩ | ⟨x9, ce, nm, hv, hex, hce, hvn, hfc, -⟩
    · cases hv
    · cases hv
      rw [ht] at hce
      rw [h0] at hz1 hk1
      rw [ht] at hz1 hk1
      obtain ⟨hP, hD⟩ := va_join (wr := [(qo, .inl (cJ, 1, .inr (.inl ov)))]) (w1 := [(h, .inr (0, [.ref qf, .ref qd, .ref qi, .ref qs, .ref qr, .ref qc, .ref qg, .ref qh])), (qf, .inr (1, [.ref qfw, .int wl])), (qfw, .inl (cI, 70, .inl fw))]) hP hD [0, 1, 2] [3] rfl rfl (by decide) (by decide) hk1 hFc (ht ▸ hB.1) hB.2.2
      have hS := lw_S hS hz1 hk1 hFc hL
      have hP := hP.sub (ws' := [(h, .inr (0, [.ref qf, .ref qd, .ref qi, .ref qs, .ref qr, .ref qc, .ref qg, .ref qh])), (qf, .inr (1, [.ref qfw, .int wl])), (qfw, .inl (cI, 70, .inl fw)), (qo, .inl (cJ, 1, .inr (.inl ov)))]) [1, 2, 3, 0] rfl
      have hD := hD.sub (ws' := [(h, .inr (0, [.ref qf, .ref qd, .ref qi, .ref qs, .ref qr, .ref qc, .ref qg, .ref qh])), (qf, .inr (1, [.ref qfw, .int wl])), (qfw, .inl (cI, 70, .inl fw)), (qo, .inl (cJ, 1, .inr (.inl ov)))]) [1, 2, 3, 0] (by decide) rfl
      rcases hex with ⟨hk9, rfl⟩ | ⟨hk9, rfl⟩ | ⟨hk9, rfl⟩
      · obtain ⟨z1, z2, z3, z4⟩ := lw_hit (e := e) (t := t) (ix := 13) (pc := 5) (hpc := 13) hal hown (hts _ gw_112) hpl (by rw [ht]; exact hce) hvn hfc hht (fun hf => by
          cases (show some cA = some ce.cls from fA.symm.trans hf)
          exact ⟨by decide, by decide, by decide, _, _, hts _ gw_112, fA, Or.inl ⟨aA, rfl⟩⟩)
        refine ⟨13, ce, hce, z2, z3, z4, ?_⟩
        clear z1 z2 z3 z4 hce
        generalize H1 = H at hP hS ⊢
        refine lv_astore (lv' := [(4, .ref x), (0, .ref h), (1, .int pl), (2, .int wd), (3, .ref qo)]) hx hb d_LA_flash_13 hl (by decide) rfl (fun ls hl => ?_)
        refine lv_iconst (v := 1) hx hb d_LA_flash_15 (by decide) ?_
        have hP : va_P (dC, dI) classes [(h, .inr (0, [.ref qf, .ref qd, .ref qi, .ref qs, .ref qr, .ref qc, .ref qg, .ref qh])), (qf, .inr (1, [.ref qfw, .int wl])), (qfw, .inl (cI, 70, .inl fw)), (qo, .inl (cJ, 1, .inr (.inl (lw_o (f_BC_flash pl wd wl fw).1 ((f_BC_flash pl wd wl fw).2) ov))))] H := by rw [lw_o_n (by omega)]; exact hP
        have hD : va_D A [(h, .inr (0, [.ref qf, .ref qd, .ref qi, .ref qs, .ref qr, .ref qc, .ref qg, .ref qh])), (qf, .inr (1, [.ref qfw, .int wl])), (qfw, .inl (cI, 70, .inl fw)), (qo, .inl (cJ, 1, .inr (.inl (lw_o (f_BC_flash pl wd wl fw).1 ((f_BC_flash pl wd wl fw).2) ov))))] := by rw [lw_o_n (by omega)]; exact hD
        exact W.iret (v := (1 : Int32)) hx hb hr (fun t ht hW => ⟨⟨(1 : Int32), (), rfl, by rw [hk9]; rfl, by rw [ht]; exact hP, va_K.moved hW.alike hK, hD⟩, hS.F ht⟩) hS.2.2 d_LA_flash_16
      · exfalso; omega
      · exfalso; omega
