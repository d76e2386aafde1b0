-- LA_counter
theorem d_LA_counter_0 : decode method_11_code 0 = .ok (.aload_n 2, 1) := by decide +kernel
theorem d_LA_counter_1 : decode method_11_code 1 = .ok (.iconst 0, 1) := by decide +kernel
theorem d_LA_counter_2 : decode method_11_code 2 = .ok (.aload_n 0, 1) := by decide +kernel
theorem d_LA_counter_3 : decode method_11_code 3 = .ok (.iload_n 1, 1) := by decide +kernel
theorem d_LA_counter_4 : decode method_11_code 4 = .ok (.invokevirtual 46, 3) := by decide +kernel
theorem d_LA_counter_7 : decode method_11_code 7 = .ok (.i2l, 1) := by decide +kernel
theorem d_LA_counter_8 : decode method_11_code 8 = .ok (.lastore, 1) := by decide +kernel
theorem d_LA_counter_9 : decode method_11_code 9 = .ok (.goto 6, 3) := by decide +kernel
theorem d_LA_counter_12 : decode method_11_code 12 = .ok (.astore_n 3, 1) := by decide +kernel
theorem d_LA_counter_13 : decode method_11_code 13 = .ok (.iconst 1, 1) := by decide +kernel
theorem d_LA_counter_14 : decode method_11_code 14 = .ok (.ireturn, 1) := by decide +kernel
theorem d_LA_counter_15 : decode method_11_code 15 = .ok (.iconst 0, 1) := by decide +kernel
theorem d_LA_counter_16 : decode method_11_code 16 = .ok (.ireturn, 1) := by decide +kernel
def y_LA_counter : MethodName := ⟨"BootChainLaw", "counter", "(LBootChain;I[J)I"⟩
def ws_LA_counter : List Cond := .codeWith y_LA_counter method_11_code 4 (some .int) [(0, 9, 12, 13)] :: bc_G
set_option maxHeartbeats 4000000 in
set_option maxRecDepth 100000 in
theorem c_LA_counter (l : Launch) (hlt : l.stackTraces = false) (dC : Nat → ClassId) (dI : Nat → Nat → Nat) (cI cJ : ClassId) (h qf qd qi qs qr qc qg qh qo : Nat) (sz : Nat) (sg : Int32) (cn : Nat → Int32) (ov : Nat → Int64) (hk : (f_BC_counter sg cn).1 = 0 ∨ (f_BC_counter sg cn).1 = 1) : Met l y_LA_counter ws_LA_counter ({ frames := 7, cells := 1, slots := 6, locals := 121 } : Room) (va_Pc [.ref h, .int sg, .ref qo] (fun U => bc_pre (dC, dI) cI cJ [(h, .inr (0, [.ref qf, .ref qd, .ref qi, .ref qs, .ref qr, .ref qc, .ref qg, .ref qh])), (qc, .inl (cI, 2, .inl cn)), (qo, .inl (cJ, 1, .inr (.inl ov)))] sz U ∧ lw_N U)) (va_Qi (fun (r : Int32) (_ : Unit) => r = lwA (f_BC_counter sg cn).1) (fun _ => bc_post (dC, dI) cI cJ (va_A [(h, .inr (0, [.ref qf, .ref qd, .ref qi, .ref qs, .ref qr, .ref qc, .ref qg, .ref qh])), (qc, .inl (cI, 2, .inl cn)), (qo, .inl (cJ, 1, .inr (.inl ov)))] sz) [(h, .inr (0, [.ref qf, .ref qd, .ref qi, .ref qs, .ref qr, .ref qc, .ref qg, .ref qh])), (qc, .inl (cI, 2, .inl cn)), (qo, .inl (cJ, 1, .inr (.inl (lw_o (f_BC_counter sg cn).1 ((f_BC_counter sg cn).2) ov))))]) (va_A [(h, .inr (0, [.ref qf, .ref qd, .ref qi, .ref qs, .ref qr, .ref qc, .ref qg, .ref qh])), (qc, .inl (cI, 2, .inl cn)), (qo, .inl (cJ, 1, .inr (.inl ov)))] sz)) 1 6 (va_A [(h, .inr (0, [.ref qf, .ref qd, .ref qi, .ref qs, .ref qr, .ref qc, .ref qg, .ref qh])), (qc, .inl (cI, 2, .inl cn)), (qo, .inl (cJ, 1, .inr (.inl ov)))] sz) := by
  refine va_MetW (cc := method_11_code) (maxL := 4) (ret := some .int) (hh := [(0, 9, 12, 13)]) (by decide) rfl ?_
  intro p e s m args below meth c s₁ B hml hv
  obtain ⟨rfl, ⟨hsz, hP, hK, hD0, hE⟩, hN⟩ := hv
  have hx := B.exec
  have hb := B.bytes
  have hr := B.returns
  have hts : ∀ w ∈ bc_G, w.before ([.ref h, .int sg, .ref qo] : List Value).toArray s = true := fun w h => atoms_spec (ws := ws_LA_counter) B.pre w (List.mem_cons_of_mem _ h)
  have hown : s.vm.findClass "BootChainLaw" = some m.cls := findClass_of_methodNamed B.named
  have hht := lw_table B (atoms_spec (ws := ws_LA_counter) B.pre _ List.mem_cons_self)
  have hpl : e.platform.magicAccessors = ({} : Platform).magicAccessors := by rw [B.admits.platform]
  subst hsz
  have hD := hD0.self (sz := s.heap.size)
  generalize hAe : va_A [(h, .inr (0, [.ref qf, .ref qd, .ref qi, .ref qs, .ref qr, .ref qc, .ref qg, .ref qh])), (qc, .inl (cI, 2, .inl cn)), (qo, .inl (cJ, 1, .inr (.inl ov)))] s.heap.size = A at hD hE ⊢
  have hA : ∀ q : Nat, s.heap.size ≤ q → A q := fun q h => by rw [← hAe]; exact Or.inr h
  have hS : va_S A s.heap s.heap [] := va_S.rf
  obtain ⟨cA, cA2, fA, fA2, aA⟩ := Cond.castable_spec (va_Nw.use (A := ([.ref h, .int sg, .ref qo] : List Value).toArray) rfl (hE.2.2.2.2 (Cond.castable "java/lang/IllegalArgumentException" "java/lang/IllegalArgumentException") (List.mem_of_getElem? (i := 0) rfl)))
  cases fA.symm.trans fA2
  have hl := lv_entry ([.ref h, .int sg, .ref qo]) (n := 4) (Nat.le_of_ble_eq_true rfl)
  rw [lg_entry_eq]
  generalize (lg_sl ([.ref h, .int sg, .ref qo]) ++ List.replicate (4 - (lg_sl ([.ref h, .int sg, .ref qo])).length) Slot.unset).toArray = ls at hl ⊢
  have hl : lv_has ls 4 [(0, .ref h), (1, .int sg), (2, .ref qo)] := hl
  refine lv_aload_n hx hb d_LA_counter_0 rfl (lv_at hl 2 rfl) ?_
  refine lv_iconst (v := 0) hx hb d_LA_counter_1 (by decide) ?_
  refine lv_aload_n hx hb d_LA_counter_2 rfl (lv_at hl 0 rfl) ?_
  refine lv_iload_n hx hb d_LA_counter_3 rfl (lv_at hl 1 rfl) ?_
  have hPc := hP.sub (ws' := [(h, .inr (0, [.ref qf, .ref qd, .ref qi, .ref qs, .ref qr, .ref qc, .ref qg, .ref qh])), (qc, .inl (cI, 2, .inl cn))]) [0, 1] rfl
  have hDc := hD.sub (ws' := [(h, .inr (0, [.ref qf, .ref qd, .ref qi, .ref qs, .ref qr, .ref qc, .ref qg, .ref qh])), (qc, .inl (cI, 2, .inl cn))]) [0, 1] (by decide) rfl
  have hFc := va_free (wc := [(h, .inr (0, [.ref qf, .ref qd, .ref qi, .ref qs, .ref qr, .ref qc, .ref qg, .ref qh])), (qc, .inl (cI, 2, .inl cn))]) hD hS hA [0, 1] rfl
  refine tx_callW (own := "BootChainLaw") (lw_runV (As := [.int sg]) (rest := [.int (0 : Int32), .ref qo]) ⟨hx, hb, hml, hown, hts⟩ (c_BC_counter l hlt dC dI cI cJ h qf qd qi qs qr qc qg qh _ sg cn) ⟨callB_of 1 hts (bc_good gw_416) rfl rfl rfl (hts _ gw_1) (hts _ gw_413) (by decide +kernel) ⟨Nat.le_of_ble_eq_true rfl, Nat.le_of_ble_eq_true rfl⟩, (hts _ gw_414), (hts _ gw_415)⟩ ⟨bc_blind, va_recv (q0 := 0) hK hP (q := (R_BC, F_BC, 8)) rfl rfl, fun U hU hW => ⟨rfl, bc_give hPc hDc hK hE hS hFc U hU hW⟩⟩ rfl rfl hl.1 rfl (lv_room (Nat.le_of_ble_eq_true rfl)) d_LA_counter_4 ⟨Nat.le_of_ble_eq_true rfl, Nat.le_of_ble_eq_true rfl⟩) hown (fun v st₀ t H1 L h0 ht hvm hq hL => ?_) (fun x st₀ t H1 L h0 ht hvm hq hL => ?_)
  · obtain ⟨hal, hout, hB, hz1, hk1⟩ := hq
    rcases hout with ⟨hk0, hv⟩ | ⟨x9, ce, nm, hv, -⟩
    · cases hv
      rw [h0] at hz1 hk1
      rw [ht] at hz1 hk1
      obtain ⟨hP, hD⟩ := va_join (wr := [(qo, .inl (cJ, 1, .inr (.inl ov)))]) (w1 := [(h, .inr (0, [.ref qf, .ref qd, .ref qi, .ref qs, .ref qr, .ref qc, .ref qg, .ref qh])), (qc, .inl (cI, 2, .inl cn))]) hP hD [0, 1] [2] rfl rfl (by decide) (by decide) hk1 hFc (ht ▸ hB.1) hB.2.2
      have hS := lw_S hS hz1 hk1 hFc hL
      have hP := hP.sub (ws' := [(h, .inr (0, [.ref qf, .ref qd, .ref qi, .ref qs, .ref qr, .ref qc, .ref qg, .ref qh])), (qc, .inl (cI, 2, .inl cn)), (qo, .inl (cJ, 1, .inr (.inl ov)))]) [1, 2, 0] rfl
      have hD := hD.sub (ws' := [(h, .inr (0, [.ref qf, .ref qd, .ref qi, .ref qs, .ref qr, .ref qc, .ref qg, .ref qh])), (qc, .inl (cI, 2, .inl cn)), (qo, .inl (cJ, 1, .inr (.inl ov)))]) [1, 2, 0] (by decide) rfl
      generalize H1 = H at hP hS ⊢
      refine lv_i2l (v := ((((f_BC_counter sg cn).2)).toInt64)) hx hb d_LA_counter_7 rfl ?_
      refine va_last hx hb hK hP hD hS 2 1 rfl rfl (by unfold vp_in; decide +kernel) d_LA_counter_8 (fun H locs hP hD hS => ?_)
      refine lv_goto (tgt := 15) hx hb d_LA_counter_9 (by decide) ?_
      refine lv_iconst (v := 0) hx hb d_LA_counter_15 (by decide) ?_
      have hP : va_P (dC, dI) classes [(h, .inr (0, [.ref qf, .ref qd, .ref qi, .ref qs, .ref qr, .ref qc, .ref qg, .ref qh])), (qc, .inl (cI, 2, .inl cn)), (qo, .inl (cJ, 1, .inr (.inl (lw_o (f_BC_counter sg cn).1 ((f_BC_counter sg cn).2) ov))))] H := by rw [lw_o_0 hk0]; exact hP
      have hD : va_D A [(h, .inr (0, [.ref qf, .ref qd, .ref qi, .ref qs, .ref qr, .ref qc, .ref qg, .ref qh])), (qc, .inl (cI, 2, .inl cn)), (qo, .inl (cJ, 1, .inr (.inl (lw_o (f_BC_counter sg cn).1 ((f_BC_counter sg cn).2) ov))))] := by rw [lw_o_0 hk0]; exact hD
      exact W.iret (v := (0 : Int32)) hx hb hr (fun t ht hW => ⟨⟨(0 : Int32), (), rfl, by rw [hk0]; rfl, by rw [ht]; exact hP, va_K.moved hW.alike hK, hD⟩, hS.F ht⟩) hS.2.2 d_LA_counter_16
    · cases hv
  · obtain ⟨hal, hout, hB, hz1, hk1⟩ := hq
    rcases hout with ⟨hk0, hv⟩ | ⟨x9, ce, nm, hv, hex, hce, hvn, hfc, -⟩
    · cases hv
    · cases hv
      rw [ht] at hce
      rw [h0] at hz1 hk1
      rw [ht] at hz1 hk1
      obtain ⟨hP, hD⟩ := va_join (wr := [(qo, .inl (cJ, 1, .inr (.inl ov)))]) (w1 := [(h, .inr (0, [.ref qf, .ref qd, .ref qi, .ref qs, .ref qr, .ref qc, .ref qg, .ref qh])), (qc, .inl (cI, 2, .inl cn))]) hP hD [0, 1] [2] rfl rfl (by decide) (by decide) hk1 hFc (ht ▸ hB.1) hB.2.2
      have hS := lw_S hS hz1 hk1 hFc hL
      have hP := hP.sub (ws' := [(h, .inr (0, [.ref qf, .ref qd, .ref qi, .ref qs, .ref qr, .ref qc, .ref qg, .ref qh])), (qc, .inl (cI, 2, .inl cn)), (qo, .inl (cJ, 1, .inr (.inl ov)))]) [1, 2, 0] rfl
      have hD := hD.sub (ws' := [(h, .inr (0, [.ref qf, .ref qd, .ref qi, .ref qs, .ref qr, .ref qc, .ref qg, .ref qh])), (qc, .inl (cI, 2, .inl cn)), (qo, .inl (cJ, 1, .inr (.inl ov)))]) [1, 2, 0] (by decide) rfl
      rcases hex with ⟨hk9, rfl⟩ | ⟨hk9, rfl⟩ | ⟨hk9, rfl⟩
      · obtain ⟨z1, z2, z3, z4⟩ := lw_hit (e := e) (t := t) (ix := 13) (pc := 4) (hpc := 12) hal hown (hts _ gw_112) hpl (by rw [ht]; exact hce) hvn hfc hht (fun hf => by
          cases (show some cA = some ce.cls from fA.symm.trans hf)
          exact ⟨by decide, by decide, by decide, _, _, hts _ gw_112, fA, Or.inl ⟨aA, rfl⟩⟩)
        refine ⟨12, ce, hce, z2, z3, z4, ?_⟩
        clear z1 z2 z3 z4 hce
        generalize H1 = H at hP hS ⊢
        refine lv_astore_n (lv' := [(3, .ref x), (0, .ref h), (1, .int sg), (2, .ref qo)]) hx hb d_LA_counter_12 rfl hl (by decide) rfl (fun ls hl => ?_)
        refine lv_iconst (v := 1) hx hb d_LA_counter_13 (by decide) ?_
        have hP : va_P (dC, dI) classes [(h, .inr (0, [.ref qf, .ref qd, .ref qi, .ref qs, .ref qr, .ref qc, .ref qg, .ref qh])), (qc, .inl (cI, 2, .inl cn)), (qo, .inl (cJ, 1, .inr (.inl (lw_o (f_BC_counter sg cn).1 ((f_BC_counter sg cn).2) ov))))] H := by rw [lw_o_n (by omega)]; exact hP
        have hD : va_D A [(h, .inr (0, [.ref qf, .ref qd, .ref qi, .ref qs, .ref qr, .ref qc, .ref qg, .ref qh])), (qc, .inl (cI, 2, .inl cn)), (qo, .inl (cJ, 1, .inr (.inl (lw_o (f_BC_counter sg cn).1 ((f_BC_counter sg cn).2) ov))))] := by rw [lw_o_n (by omega)]; exact hD
        exact W.iret (v := (1 : Int32)) hx hb hr (fun t ht hW => ⟨⟨(1 : Int32), (), rfl, by rw [hk9]; rfl, by rw [ht]; exact hP, va_K.moved hW.alike hK, hD⟩, hS.F ht⟩) hS.2.2 d_LA_counter_14
      · exfalso; omega
      · exfalso; omega
-- LA_register
theorem d_LA_register_0 : decode method_12_code 0 = .ok (.aload_n 3, 1) := by decide +kernel
theorem d_LA_register_1 : decode method_12_code 1 = .ok (.iconst 0, 1) := by decide +kernel
theorem d_LA_register_2 : decode method_12_code 2 = .ok (.aload_n 0, 1) := by decide +kernel
theorem d_LA_register_3 : decode method_12_code 3 = .ok (.iload_n 1, 1) := by decide +kernel
theorem d_LA_register_4 : decode method_12_code 4 = .ok (.iload_n 2, 1) := by decide +kernel
theorem d_LA_register_5 : decode method_12_code 5 = .ok (.invokevirtual 49, 3) := by decide +kernel
theorem d_LA_register_8 : decode method_12_code 8 = .ok (.i2l, 1) := by decide +kernel
theorem d_LA_register_9 : decode method_12_code 9 = .ok (.lastore, 1) := by decide +kernel
theorem d_LA_register_10 : decode method_12_code 10 = .ok (.goto 7, 3) := by decide +kernel
theorem d_LA_register_13 : decode method_12_code 13 = .ok (.astore 4, 2) := by decide +kernel
theorem d_LA_register_15 : decode method_12_code 15 = .ok (.iconst 1, 1) := by decide +kernel
theorem d_LA_register_16 : decode method_12_code 16 = .ok (.ireturn, 1) := by decide +kernel
theorem d_LA_register_17 : decode method_12_code 17 = .ok (.iconst 0, 1) := by decide +kernel
theorem d_LA_register_18 : decode method_12_code 18 = .ok (.ireturn, 1) := by decide +kernel
def y_LA_register : MethodName := ⟨"BootChainLaw", "register", "(LBootChain;II[J)I"⟩
def ws_LA_register : List Cond := .codeWith y_LA_register method_12_code 5 (some .int) [(0, 10, 13, 13)] :: bc_G
set_option maxHeartbeats 4000000 in
set_option maxRecDepth 100000 in
theorem c_LA_register (l : Launch) (hlt : l.stackTraces = false) (dC : Nat → ClassId) (dI : Nat → Nat → Nat) (cI cJ : ClassId) (h qf qd qi qs qr qc qg qh qo : Nat) (sz : Nat) (sg : Int32) (wd : Int32) (rg : Nat → Int32) (ov : Nat → Int64) (hk : (f_BC_register sg wd rg).1 = 0 ∨ (f_BC_register sg wd rg).1 = 1) : Met l y_LA_register ws_LA_register ({ frames := 7, cells := 1, slots := 6, locals := 122 } : Room) (va_Pc [.ref h, .int sg, .int wd, .ref qo] (fun U => bc_pre (dC, dI) cI cJ [(h, .inr (0, [.ref qf, .ref qd, .ref qi, .ref qs, .ref qr, .ref qc, .ref qg, .ref qh])), (qg, .inl (cI, 16, .inl rg)), (qo, .inl (cJ, 1, .inr (.inl ov)))] sz U ∧ lw_N U)) (va_Qi (fun (r : Int32) (_ : Unit) => r = lwA (f_BC_register sg wd rg).1) (fun _ => bc_post (dC, dI) cI cJ (va_A [(h, .inr (0, [.ref qf, .ref qd, .ref qi, .ref qs, .ref qr, .ref qc, .ref qg, .ref qh])), (qg, .inl (cI, 16, .inl rg)), (qo, .inl (cJ, 1, .inr (.inl ov)))] sz) [(h, .inr (0, [.ref qf, .ref qd, .ref qi, .ref qs, .ref qr, .ref qc, .ref qg, .ref qh])), (qg, .inl (cI, 16, .inl rg)), (qo, .inl (cJ, 1, .inr (.inl (lw_o (f_BC_register sg wd rg).1 ((f_BC_register sg wd rg).2) ov))))]) (va_A [(h, .inr (0, [.ref qf, .ref qd, .ref qi, .ref qs, .ref qr, .ref qc, .ref qg, .ref qh])), (qg, .inl (cI, 16, .inl rg)), (qo, .inl (cJ, 1, .inr (.inl ov)))] sz)) 1 6 (va_A [(h, .inr (0, [.ref qf, .ref qd, .ref qi, .ref qs, .ref qr, .ref qc, .ref qg, .ref qh])), (qg, .inl (cI, 16, .inl rg)), (qo, .inl (cJ, 1, .inr (.inl ov)))] sz) := by
  refine va_MetW (cc := method_12_code) (maxL := 5) (ret := some .int) (hh := [(0, 10, 13, 13)]) (by decide) rfl ?_
  intro p e s m args below meth c s₁ B hml hv
  obtain ⟨rfl, ⟨hsz, hP, hK, hD0, hE⟩, hN⟩ := hv
  have hx := B.exec
  have hb := B.bytes
  have hr := B.returns
  have hts : ∀ w ∈ bc_G, w.before ([.ref h, .int sg, .int wd, .ref qo] : List Value).toArray s = true := fun w h => atoms_spec (ws := ws_LA_register) B.pre w (List.mem_cons_of_mem _ h)
  have hown : s.vm.findClass "BootChainLaw" = some m.cls := findClass_of_methodNamed B.named
  have hht := lw_table B (atoms_spec (ws := ws_LA_register) B.pre _ List.mem_cons_self)
  have hpl : e.platform.magicAccessors = ({} : Platform).magicAccessors := by rw [B.admits.platform]
  subst hsz
  have hD := hD0.self (sz := s.heap.size)
  generalize hAe : va_A [(h, .inr (0, [.ref qf, .ref qd, .ref qi, .ref qs, .ref qr, .ref qc, .ref qg, .ref qh])), (qg, .inl (cI, 16, .inl rg)), (qo, .inl (cJ, 1, .inr (.inl ov)))] s.heap.size = A at hD hE ⊢
  have hA : ∀ q : Nat, s.heap.size ≤ q → A q := fun q h => by rw [← hAe]; exact Or.inr h
  have hS : va_S A s.heap s.heap [] := va_S.rf
  obtain ⟨cA, cA2, fA, fA2, aA⟩ := Cond.castable_spec (va_Nw.use (A := ([.ref h, .int sg, .int wd, .ref qo] : List Value).toArray) rfl (hE.2.2.2.2 (Cond.castable "java/lang/IllegalArgumentException" "java/lang/IllegalArgumentException") (List.mem_of_getElem? (i := 0) rfl)))
  cases fA.symm.trans fA2
  have hl := lv_entry ([.ref h, .int sg, .int wd, .ref qo]) (n := 5) (Nat.le_of_ble_eq_true rfl)
  rw [lg_entry_eq]
  generalize (lg_sl ([.ref h, .int sg, .int wd, .ref qo]) ++ List.replicate (5 - (lg_sl ([.ref h, .int sg, .int wd, .ref qo])).length) Slot.unset).toArray = ls at hl ⊢
  have hl : lv_has ls 5 [(0, .ref h), (1, .int sg), (2, .int wd), (3, .ref qo)] := hl
  refine lv_aload_n hx hb d_LA_register_0 rfl (lv_at hl 3 rfl) ?_
  refine lv_iconst (v := 0) hx hb d_LA_register_1 (by decide) ?_
  refine lv_aload_n hx hb d_LA_register_2 rfl (lv_at hl 0 rfl) ?_
  refine lv_iload_n hx hb d_LA_register_3 rfl (lv_at hl 1 rfl) ?_
  refine lv_iload_n hx hb d_LA_register_4 rfl (lv_at hl 2 rfl) ?_
  have hPc := hP.sub (ws' := [(h, .inr (0, [.ref qf, .ref qd, .ref qi, .ref qs, .ref qr, .ref qc, .ref qg, .ref qh])), (qg, .inl (cI, 16, .inl rg))]) [0, 1] rfl
  have hDc := hD.sub (ws' := [(h, .inr (0, [.ref qf, .ref qd, .ref qi, .ref qs, .ref qr, .ref qc, .ref qg, .ref qh])), (qg, .inl (cI, 16, .inl rg))]) [0, 1] (by decide) rfl
  have hFc := va_free (wc := [(h, .inr (0, [.ref qf, .ref qd, .ref qi, .ref qs, .ref qr, .ref qc, .ref qg, .ref qh])), (qg, .inl (cI, 16, .inl rg))]) hD hS hA [0, 1] rfl
  refine tx_callW (own := "BootChainLaw") (lw_runV (As := [.int sg, .int wd]) (rest := [.int (0 : Int32), .ref qo]) ⟨hx, hb, hml, hown, hts⟩ (c_BC_register l hlt dC dI cI cJ h qf qd qi qs qr qc qg qh _ sg wd rg) ⟨callB_of 2 hts (bc_good gw_422) rfl rfl rfl (hts _ gw_1) (hts _ gw_419) (by decide +kernel) ⟨Nat.le_of_ble_eq_true rfl, Nat.le_of_ble_eq_true rfl⟩, (hts _ gw_420), (hts _ gw_421)⟩ ⟨bc_blind, va_recv (q0 := 0) hK hP (q := (R_BC, F_BC, 8)) rfl rfl, fun U hU hW => ⟨rfl, bc_give hPc hDc hK hE hS hFc U hU hW⟩⟩ rfl rfl hl.1 rfl (lv_room (Nat.le_of_ble_eq_true rfl)) d_LA_register_5 ⟨Nat.le_of_ble_eq_true rfl, Nat.le_of_ble_eq_true rfl⟩) hown (fun v st₀ t H1 L h0 ht hvm hq hL => ?_) (fun x st₀ t H1 L h0 ht hvm hq hL => ?_)
  · obtain ⟨hal, hout, hB, hz1, hk1⟩ := hq
    rcases hout with ⟨hk0, hv⟩ | ⟨x9, ce, nm, hv, -⟩
    · cases hv
      rw [h0] at hz1 hk1
      rw [ht] at hz1 hk1
      obtain ⟨hP, hD⟩ := va_join (wr := [(qo, .inl (cJ, 1, .inr (.inl ov)))]) (w1 := [(h, .inr (0, [.ref qf, .ref qd, .ref qi, .ref qs, .ref qr, .ref qc, .ref qg, .ref qh])), (qg, .inl (cI, 16, .inl rg))]) hP hD [0, 1] [2] rfl rfl (by decide) (by decide) hk1 hFc (ht ▸ hB.1) hB.2.2
      have hS := lw_S hS hz1 hk1 hFc hL
      have hP := hP.sub (ws' := [(h, .inr (0, [.ref qf, .ref qd, .ref qi, .ref qs, .ref qr, .ref qc, .ref qg, .ref qh])), (qg, .inl (cI, 16, .inl rg)), (qo, .inl (cJ, 1, .inr (.inl ov)))]) [1, 2, 0] rfl
      have hD := hD.sub (ws' := [(h, .inr (0, [.ref qf, .ref qd, .ref qi, .ref qs, .ref qr, .ref qc, .ref qg, .ref qh])), (qg, .inl (cI, 16, .inl rg)), (qo, .inl (cJ, 1, .inr (.inl ov)))]) [1, 2, 0] (by decide) rfl
      generalize H1 = H at hP hS ⊢
      refine lv_i2l (v := ((((f_BC_register sg wd rg).2)).toInt64)) hx hb d_LA_register_8 rfl ?_
      refine va_last hx hb hK hP hD hS 2 1 rfl rfl (by unfold vp_in; decide +kernel) d_LA_register_9 (fun H locs hP hD hS => ?_)
      refine lv_goto (tgt := 17) hx hb d_LA_register_10 (by decide) ?_
      refine lv_iconst (v := 0) hx hb d_LA_register_17 (by decide) ?_
      have hP : va_P (dC, dI) classes [(h, .inr (0, [.ref qf, .ref qd, .ref qi, .ref qs, .ref qr, .ref qc, .ref qg, .ref qh])), (qg, .inl (cI, 16, .inl rg)), (qo, .inl (cJ, 1, .inr (.inl (lw_o (f_BC_register sg wd rg).1 ((f_BC_register sg wd rg).2) ov))))] H := by rw [lw_o_0 hk0]; exact hP
      have hD : va_D A [(h, .inr (0, [.ref qf, .ref qd, .ref qi, .ref qs, .ref qr, .ref qc, .ref qg, .ref qh])), (qg, .inl (cI, 16, .inl rg)), (qo, .inl (cJ, 1, .inr (.inl (lw_o (f_BC_register sg wd rg).1 ((f_BC_register sg wd rg).2) ov))))] := by rw [lw_o_0 hk0]; exact hD
      exact W.iret (v := (0 : Int32)) hx hb hr (fun t ht hW => ⟨⟨(0 : Int32), (), rfl, by rw [hk0]; rfl, by rw [ht]; exact hP, va_K.moved hW.alike hK, hD⟩, hS.F ht⟩) hS.2.2 d_LA_register_18
    · cases hv
  · obtain ⟨hal, hout, hB, hz1, hk1⟩ := hq
    rcases hout with ⟨hk0, hv⟩ | ⟨x9, ce, nm, hv, hex, hce, hvn, hfc, -⟩
    · cases hv
    · cases hv
      rw [ht] at hce
      rw [h0] at hz1 hk1
      rw [ht] at hz1 hk1
      obtain ⟨hP, hD⟩ := va_join (wr := [(qo, .inl (cJ, 1, .inr (.inl ov)))]) (w1 := [(h, .inr (0, [.ref qf, .ref qd, .ref qi, .ref qs, .ref qr, .ref qc, .ref qg, .ref qh])), (qg, .inl (cI, 16, .inl rg))]) hP hD [0, 1] [2] rfl rfl (by decide) (by decide) hk1 hFc (ht ▸ hB.1) hB.2.2
      have hS := lw_S hS hz1 hk1 hFc hL
      have hP := hP.sub (ws' := [(h, .inr (0, [.ref qf, .ref qd, .ref qi, .ref qs, .ref qr, .ref qc, .ref qg, .ref qh])), (qg, .inl (cI, 16, .inl rg)), (qo, .inl (cJ, 1, .inr (.inl ov)))]) [1, 2, 0] rfl
      have hD := hD.sub (ws' := [(h, .inr (0, [.ref qf, .ref qd, .ref qi, .ref qs, .ref qr, .ref qc, .ref qg, .ref qh])), (qg, .inl (cI, 16, .inl rg)), (qo, .inl (cJ, 1, .inr (.inl ov)))]) [1, 2, 0] (by decide) rfl
      rcases hex with ⟨hk9, rfl⟩ | ⟨hk9, rfl⟩ | ⟨hk9, rfl⟩
      · obtain ⟨z1, z2, z3, z4⟩ := lw_hit (e := e) (t := t) (ix := 13) (pc := 5) (hpc := 13) hal hown (hts _ gw_112) hpl (by rw [ht]; exact hce) hvn hfc hht (fun hf => by
          cases (show some cA = some ce.cls from fA.symm.trans hf)
          exact ⟨by decide, by decide, by decide, _, _, hts _ gw_112, fA, Or.inl ⟨aA, rfl⟩⟩)
        refine ⟨13, ce, hce, z2, z3, z4, ?_⟩
        clear z1 z2 z3 z4 hce
        generalize H1 = H at hP hS ⊢
        refine lv_astore (lv' := [(4, .ref x), (0, .ref h), (1, .int sg), (2, .int wd), (3, .ref qo)]) hx hb d_LA_register_13 hl (by decide) rfl (fun ls hl => ?_)
        refine lv_iconst (v := 1) hx hb d_LA_register_15 (by decide) ?_
        have hP : va_P (dC, dI) classes [(h, .inr (0, [.ref qf, .ref qd, .ref qi, .ref qs, .ref qr, .ref qc, .ref qg, .ref qh])), (qg, .inl (cI, 16, .inl rg)), (qo, .inl (cJ, 1, .inr (.inl (lw_o (f_BC_register sg wd rg).1 ((f_BC_register sg wd rg).2) ov))))] H := by rw [lw_o_n (by omega)]; exact hP
        have hD : va_D A [(h, .inr (0, [.ref qf, .ref qd, .ref qi, .ref qs, .ref qr, .ref qc, .ref qg, .ref qh])), (qg, .inl (cI, 16, .inl rg)), (qo, .inl (cJ, 1, .inr (.inl (lw_o (f_BC_register sg wd rg).1 ((f_BC_register sg wd rg).2) ov))))] := by rw [lw_o_n (by omega)]; exact hD
        exact W.iret (v := (1 : Int32)) hx hb hr (fun t ht hW => ⟨⟨(1 : Int32), (), rfl, by rw [hk9]; rfl, by rw [ht]; exact hP, va_K.moved hW.alike hK, hD⟩, hS.F ht⟩) hS.2.2 d_LA_register_16
      · exfalso; omega
      · exfalso; omega
-- LA_quote
theorem d_LA_quote_0 : decode method_13_code 0 = .ok (.aload_n 3, 1) := by decide +kernel
theorem d_LA_quote_1 : decode method_13_code 1 = .ok (.iconst 0, 1) := by decide +kernel
theorem d_LA_quote_2 : decode method_13_code 2 = .ok (.aload_n 0, 1) := by decide +kernel
theorem d_LA_quote_3 : decode method_13_code 3 = .ok (.iload_n 1, 1) := by decide +kernel
theorem d_LA_quote_4 : decode method_13_code 4 = .ok (.iload_n 2, 1) := by decide +kernel
theorem d_LA_quote_5 : decode method_13_code 5 = .ok (.invokevirtual 52, 3) := by decide +kernel
theorem d_LA_quote_8 : decode method_13_code 8 = .ok (.i2l, 1) := by decide +kernel
theorem d_LA_quote_9 : decode method_13_code 9 = .ok (.lastore, 1) := by decide +kernel
theorem d_LA_quote_10 : decode method_13_code 10 = .ok (.goto 11, 3) := by decide +kernel
theorem d_LA_quote_13 : decode method_13_code 13 = .ok (.astore 4, 2) := by decide +kernel
theorem d_LA_quote_15 : decode method_13_code 15 = .ok (.iconst 1, 1) := by decide +kernel
theorem d_LA_quote_16 : decode method_13_code 16 = .ok (.ireturn, 1) := by decide +kernel
theorem d_LA_quote_17 : decode method_13_code 17 = .ok (.astore 4, 2) := by decide +kernel
theorem d_LA_quote_19 : decode method_13_code 19 = .ok (.iconst 2, 1) := by decide +kernel
theorem d_LA_quote_20 : decode method_13_code 20 = .ok (.ireturn, 1) := by decide +kernel
theorem d_LA_quote_21 : decode method_13_code 21 = .ok (.iconst 0, 1) := by decide +kernel
theorem d_LA_quote_22 : decode method_13_code 22 = .ok (.ireturn, 1) := by decide +kernel
def y_LA_quote : MethodName := ⟨"BootChainLaw", "quote", "(LBootChain;II[J)I"⟩
def ws_LA_quote : List Cond := .codeWith y_LA_quote method_13_code 5 (some .int) [(0, 10, 13, 13), (0, 10, 17, 15)] :: bc_G
set_option maxHeartbeats 4000000 in
set_option maxRecDepth 100000 in
theorem c_LA_quote (l : Launch) (hlt : l.stackTraces = false) (dC : Nat → ClassId) (dI : Nat → Nat → Nat) (cI cJ : ClassId) (h qf qd qi qs qr qc qg qh gm gs gc qo : Nat) (sz : Nat) (no : Int32) (wd : Int32) (sl : Int32) (ms : Nat → Int32) (sc : Nat → Int32) (ch : Nat → Int32) (ru : Nat → Int32) (rg : Nat → Int32) (hh : Nat → Int32) (ov : Nat → Int64) (hk : (f_BC_quote no wd sl ms sc ch ru rg hh).1 = 0 ∨ (f_BC_quote no wd sl ms sc ch ru rg hh).1 = 1 ∨ (f_BC_quote no wd sl ms sc ch ru rg hh).1 = 2) : Met l y_LA_quote ws_LA_quote ({ frames := 7, cells := 1, slots := 6, locals := 122 } : Room) (va_Pc [.ref h, .int no, .int wd, .ref qo] (fun U => bc_pre (dC, dI) cI cJ [(h, .inr (0, [.ref qf, .ref qd, .ref qi, .ref qs, .ref qr, .ref qc, .ref qg, .ref qh])), (qs, .inr (4, [.ref gm, .ref gs, .ref gc, .int sl])), (gm, .inl (cI, 32, .inl ms)), (gs, .inl (cI, 64, .inl sc)), (gc, .inl (cI, 8, .inl ch)), (qr, .inl (cI, 2, .inl ru)), (qg, .inl (cI, 16, .inl rg)), (qh, .inl (cI, 8, .inl hh)), (qo, .inl (cJ, 1, .inr (.inl ov)))] sz U ∧ lw_N U)) (va_Qi (fun (r : Int32) (_ : Unit) => r = lwA (f_BC_quote no wd sl ms sc ch ru rg hh).1) (fun _ => bc_post (dC, dI) cI cJ (va_A [(h, .inr (0, [.ref qf, .ref qd, .ref qi, .ref qs, .ref qr, .ref qc, .ref qg, .ref qh])), (qs, .inr (4, [.ref gm, .ref gs, .ref gc, .int sl])), (gm, .inl (cI, 32, .inl ms)), (gs, .inl (cI, 64, .inl sc)), (gc, .inl (cI, 8, .inl ch)), (qr, .inl (cI, 2, .inl ru)), (qg, .inl (cI, 16, .inl rg)), (qh, .inl (cI, 8, .inl hh)), (qo, .inl (cJ, 1, .inr (.inl ov)))] sz) [(h, .inr (0, [.ref qf, .ref qd, .ref qi, .ref qs, .ref qr, .ref qc, .ref qg, .ref qh])), (qs, .inr (4, [.ref gm, .ref gs, .ref gc, .int (f_BC_quote no wd sl ms sc ch ru rg hh).2.2.1])), (gm, .inl (cI, 32, .inl (f_BC_quote no wd sl ms sc ch ru rg hh).2.2.2.1)), (gs, .inl (cI, 64, .inl (f_BC_quote no wd sl ms sc ch ru rg hh).2.2.2.2.1)), (gc, .inl (cI, 8, .inl (f_BC_quote no wd sl ms sc ch ru rg hh).2.2.2.2.2.1)), (qr, .inl (cI, 2, .inl ru)), (qg, .inl (cI, 16, .inl rg)), (qh, .inl (cI, 8, .inl (f_BC_quote no wd sl ms sc ch ru rg hh).2.2.2.2.2.2)), (qo, .inl (cJ, 1, .inr (.inl (lw_o (f_BC_quote no wd sl ms sc ch ru rg hh).1 ((f_BC_quote no wd sl ms sc ch ru rg hh).2.1) ov))))]) (va_A [(h, .inr (0, [.ref qf, .ref qd, .ref qi, .ref qs, .ref qr, .ref qc, .ref qg, .ref qh])), (qs, .inr (4, [.ref gm, .ref gs, .ref gc, .int sl])), (gm, .inl (cI, 32, .inl ms)), (gs, .inl (cI, 64, .inl sc)), (gc, .inl (cI, 8, .inl ch)), (qr, .inl (cI, 2, .inl ru)), (qg, .inl (cI, 16, .inl rg)), (qh, .inl (cI, 8, .inl hh)), (qo, .inl (cJ, 1, .inr (.inl ov)))] sz)) 1 6 (va_A [(h, .inr (0, [.ref qf, .ref qd, .ref qi, .ref qs, .ref qr, .ref qc, .ref qg, .ref qh])), (qs, .inr (4, [.ref gm, .ref gs, .ref gc, .int sl])), (gm, .inl (cI, 32, .inl ms)), (gs, .inl (cI, 64, .inl sc)), (gc, .inl (cI, 8, .inl ch)), (qr, .inl (cI, 2, .inl ru)), (qg, .inl (cI, 16, .inl rg)), (qh, .inl (cI, 8, .inl hh)), (qo, .inl (cJ, 1, .inr (.inl ov)))] sz) := by
  refine va_MetW (cc := method_13_code) (maxL := 5) (ret := some .int) (hh := [(0, 10, 13, 13), (0, 10, 17, 15)]) (by decide) rfl ?_
  intro p e s m args below meth c s₁ B hml hv
  obtain ⟨rfl, ⟨hsz, hP, hK, hD0, hE⟩, hN⟩ := hv
  have hx := B.exec
  have hb := B.bytes
  have hr := B.returns
  have hts : ∀ w ∈ bc_G, w.before ([.ref h, .int no, .int wd, .ref qo] : List Value).toArray s = true := fun w h => atoms_spec (ws := ws_LA_quote) B.pre w (List.mem_cons_of_mem _ h)
  have hown : s.vm.findClass "BootChainLaw" = some m.cls := findClass_of_methodNamed B.named
  have hht := lw_table B (atoms_spec (ws := ws_LA_quote) B.pre _ List.mem_cons_self)
  have hpl : e.platform.magicAccessors = ({} : Platform).magicAccessors := by rw [B.admits.platform]
  subst hsz
  have hD := hD0.self (sz := s.heap.size)
  generalize hAe : va_A [(h, .inr (0, [.ref qf, .ref qd, .ref qi, .ref qs, .ref qr, .ref qc, .ref qg, .ref qh])), (qs, .inr (4, [.ref gm, .ref gs, .ref gc, .int sl])), (gm, .inl (cI, 32, .inl ms)), (gs, .inl (cI, 64, .inl sc)), (gc, .inl (cI, 8, .inl ch)), (qr, .inl (cI, 2, .inl ru)), (qg, .inl (cI, 16, .inl rg)), (qh, .inl (cI, 8, .inl hh)), (qo, .inl (cJ, 1, .inr (.inl ov)))] s.heap.size = A at hD hE ⊢
  have hA : ∀ q : Nat, s.heap.size ≤ q → A q := fun q h => by rw [← hAe]; exact Or.inr h
  have hS : va_S A s.heap s.heap [] := va_S.rf
  obtain ⟨cA, cA2, fA, fA2, aA⟩ := Cond.castable_spec (va_Nw.use (A := ([.ref h, .int no, .int wd, .ref qo] : List Value).toArray) rfl (hE.2.2.2.2 (Cond.castable "java/lang/IllegalArgumentException" "java/lang/IllegalArgumentException") (List.mem_of_getElem? (i := 0) rfl)))
  cases fA.symm.trans fA2
  obtain ⟨cS, cS2, fS, fS2, aS⟩ := Cond.castable_spec (va_Nw.use (A := ([.ref h, .int no, .int wd, .ref qo] : List Value).toArray) rfl (hE.2.2.2.2 (Cond.castable "java/lang/IllegalStateException" "java/lang/IllegalStateException") (List.mem_of_getElem? (i := 7) rfl)))
  cases fS.symm.trans fS2
  have hl := lv_entry ([.ref h, .int no, .int wd, .ref qo]) (n := 5) (Nat.le_of_ble_eq_true rfl)
  rw [lg_entry_eq]
  generalize (lg_sl ([.ref h, .int no, .int wd, .ref qo]) ++ List.replicate (5 - (lg_sl ([.ref h, .int no, .int wd, .ref qo])).length) Slot.unset).toArray = ls at hl ⊢
  have hl : lv_has ls 5 [(0, .ref h), (1, .int no), (2, .int wd), (3, .ref qo)] := hl
  refine lv_aload_n hx hb d_LA_quote_0 rfl (lv_at hl 3 rfl) ?_
  refine lv_iconst (v := 0) hx hb d_LA_quote_1 (by decide) ?_
  refine lv_aload_n hx hb d_LA_quote_2 rfl (lv_at hl 0 rfl) ?_
  refine lv_iload_n hx hb d_LA_quote_3 rfl (lv_at hl 1 rfl) ?_
  refine lv_iload_n hx hb d_LA_quote_4 rfl (lv_at hl 2 rfl) ?_
  have hPc := hP.sub (ws' := [(h, .inr (0, [.ref qf, .ref qd, .ref qi, .ref qs, .ref qr, .ref qc, .ref qg, .ref qh])), (qs, .inr (4, [.ref gm, .ref gs, .ref gc, .int sl])), (gm, .inl (cI, 32, .inl ms)), (gs, .inl (cI, 64, .inl sc)), (gc, .inl (cI, 8, .inl ch)), (qr, .inl (cI, 2, .inl ru)), (qg, .inl (cI, 16, .inl rg)), (qh, .inl (cI, 8, .inl hh))]) [0, 1, 2, 3, 4, 5, 6, 7] rfl
  have hDc := hD.sub (ws' := [(h, .inr (0, [.ref qf, .ref qd, .ref qi, .ref qs, .ref qr, .ref qc, .ref qg, .ref qh])), (qs, .inr (4, [.ref gm, .ref gs, .ref gc, .int sl])), (gm, .inl (cI, 32, .inl ms)), (gs, .inl (cI, 64, .inl sc)), (gc, .inl (cI, 8, .inl ch)), (qr, .inl (cI, 2, .inl ru)), (qg, .inl (cI, 16, .inl rg)), (qh, .inl (cI, 8, .inl hh))]) [0, 1, 2, 3, 4, 5, 6, 7] (by decide) rfl
  have hFc := va_free (wc := [(h, .inr (0, [.ref qf, .ref qd, .ref qi, .ref qs, .ref qr, .ref qc, .ref qg, .ref qh])), (qs, .inr (4, [.ref gm, .ref gs, .ref gc, .int sl])), (gm, .inl (cI, 32, .inl ms)), (gs, .inl (cI, 64, .inl sc)), (gc, .inl (cI, 8, .inl ch)), (qr, .inl (cI, 2, .inl ru)), (qg, .inl (cI, 16, .inl rg)), (qh, .inl (cI, 8, .inl hh))]) hD hS hA [0, 1, 2, 3, 4, 5, 6, 7] rfl
  refine tx_callW (own := "BootChainLaw") (lw_runV (As := [.int no, .int wd]) (rest := [.int (0 : Int32), .ref qo]) ⟨hx, hb, hml, hown, hts⟩ (c_BC_quote l hlt dC dI cI cJ h qf qd qi qs qr qc qg qh gm gs gc _ no wd sl ms sc ch ru rg hh) ⟨callB_of 2 hts (bc_good gw_431) rfl rfl rfl (hts _ gw_1) (hts _ gw_428) (by decide +kernel) ⟨Nat.le_of_ble_eq_true rfl, Nat.le_of_ble_eq_true rfl⟩, (hts _ gw_429), (hts _ gw_430)⟩ ⟨bc_blind, va_recv (q0 := 0) hK hP (q := (R_BC, F_BC, 8)) rfl rfl, fun U hU hW => ⟨rfl, bc_give hPc hDc hK hE hS hFc U hU hW⟩⟩ rfl rfl hl.1 rfl (lv_room (Nat.le_of_ble_eq_true rfl)) d_LA_quote_5 ⟨Nat.le_of_ble_eq_true rfl, Nat.le_of_ble_eq_true rfl⟩) hown (fun v st₀ t H1 L h0 ht hvm hq hL => ?_) (fun x st₀ t H1 L h0 ht hvm hq hL => ?_)
  · obtain ⟨hal, hout, hB, hz1, hk1⟩ := hq
    rcases hout with ⟨hk0, hv⟩ | ⟨x9, ce, nm, hv, -⟩
    · cases hv
      rw [h0] at hz1 hk1
      rw [ht] at hz1 hk1
      obtain ⟨hP, hD⟩ := va_join (wr := [(qo, .inl (cJ, 1, .inr (.inl ov)))]) (w1 := [(h, .inr (0, [.ref qf, .ref qd, .ref qi, .ref qs, .ref qr, .ref qc, .ref qg, .ref qh])), (qs, .inr (4, [.ref gm, .ref gs, .ref gc, .int (f_BC_quote no wd sl ms sc ch ru rg hh).2.2.1])), (gm, .inl (cI, 32, .inl (f_BC_quote no wd sl ms sc ch ru rg hh).2.2.2.1)), (gs, .inl (cI, 64, .inl (f_BC_quote no wd sl ms sc ch ru rg hh).2.2.2.2.1)), (gc, .inl (cI, 8, .inl (f_BC_quote no wd sl ms sc ch ru rg hh).2.2.2.2.2.1)), (qr, .inl (cI, 2, .inl ru)), (qg, .inl (cI, 16, .inl rg)), (qh, .inl (cI, 8, .inl (f_BC_quote no wd sl ms sc ch ru rg hh).2.2.2.2.2.2))]) hP hD [0, 1, 2, 3, 4, 5, 6, 7] [8] rfl rfl (by decide) (by decide) hk1 hFc (ht ▸ hB.1) hB.2.2
      have hS := lw_S hS hz1 hk1 hFc hL
      have hP := hP.sub (ws' := [(h, .inr (0, [.ref qf, .ref qd, .ref qi, .ref qs, .ref qr, .ref qc, .ref qg, .ref qh])), (qs, .inr (4, [.ref gm, .ref gs, .ref gc, .int (f_BC_quote no wd sl ms sc ch ru rg hh).2.2.1])), (gm, .inl (cI, 32, .inl (f_BC_quote no wd sl ms sc ch ru rg hh).2.2.2.1)), (gs, .inl (cI, 64, .inl (f_BC_quote no wd sl ms sc ch ru rg hh).2.2.2.2.1)), (gc, .inl (cI, 8, .inl (f_BC_quote no wd sl ms sc ch ru rg hh).2.2.2.2.2.1)), (qr, .inl (cI, 2, .inl ru)), (qg, .inl (cI, 16, .inl rg)), (qh, .inl (cI, 8, .inl (f_BC_quote no wd sl ms sc ch ru rg hh).2.2.2.2.2.2)), (qo, .inl (cJ, 1, .inr (.inl ov)))]) [1, 2, 3, 4, 5, 6, 7, 8, 0] rfl
      have hD := hD.sub (ws' := [(h, .inr (0, [.ref qf, .ref qd, .ref qi, .ref qs, .ref qr, .ref qc, .ref qg, .ref qh])), (qs, .inr (4, [.ref gm, .ref gs, .ref gc, .int (f_BC_quote no wd sl ms sc ch ru rg hh).2.2.1])), (gm, .inl (cI, 32, .inl (f_BC_quote no wd sl ms sc ch ru rg hh).2.2.2.1)), (gs, .inl (cI, 64, .inl (f_BC_quote no wd sl ms sc ch ru rg hh).2.2.2.2.1)), (gc, .inl (cI, 8, .inl (f_BC_quote no wd sl ms sc ch ru rg hh).2.2.2.2.2.1)), (qr, .inl (cI, 2, .inl ru)), (qg, .inl (cI, 16, .inl rg)), (qh, .inl (cI, 8, .inl (f_BC_quote no wd sl ms sc ch ru rg hh).2.2.2.2.2.2)), (qo, .inl (cJ, 1, .inr (.inl ov)))]) [1, 2, 3, 4, 5, 6, 7, 8, 0] (by decide) rfl
      generalize H1 = H at hP hS ⊢
      refine lv_i2l (v := ((((f_BC_quote no wd sl ms sc ch ru rg hh).2.1)).toInt64)) hx hb d_LA_quote_8 rfl ?_
      refine va_last hx hb hK hP hD hS 8 1 rfl rfl (by unfold vp_in; decide +kernel) d_LA_quote_9 (fun H locs hP hD hS => ?_)
      refine lv_goto (tgt := 21) hx hb d_LA_quote_10 (by decide) ?_
      refine lv_iconst (v := 0) hx hb d_LA_quote_21 (by decide) ?_
      have hP : va_P (dC, dI) classes [(h, .inr (0, [.ref qf, .ref qd, .ref qi, .ref qs, .ref qr, .ref qc, .ref qg, .ref qh])), (qs, .inr (4, [.ref gm, .ref gs, .ref gc, .int (f_BC_quote no wd sl ms sc ch ru rg hh).2.2.1])), (gm, .inl (cI, 32, .inl (f_BC_quote no wd sl ms sc ch ru rg hh).2.2.2.1)), (gs, .inl (cI, 64, .inl (f_BC_quote no wd sl ms sc ch ru rg hh).2.2.2.2.1)), (gc, .inl (cI, 8, .inl (f_BC_quote no wd sl ms sc ch ru rg hh).2.2.2.2.2.1)), (qr, .inl (cI, 2, .inl ru)), (qg, .inl (cI, 16, .inl rg)), (qh, .inl (cI, 8, .inl (f_BC_quote no wd sl ms sc ch ru rg hh).2.2.2.2.2.2)), (qo, .inl (cJ, 1, .inr (.inl (lw_o (f_BC_quote no wd sl ms sc ch ru rg hh).1 ((f_BC_quote no wd sl ms sc ch ru rg hh).2.1) ov))))] H := by rw [lw_o_0 hk0]; exact hP
      have hD : va_D A [(h, .inr (0, [.ref qf, .ref qd, .ref qi, .ref qs, .ref qr, .ref qc, .ref qg, .ref qh])), (qs, .inr (4, [.ref gm, .ref gs, .ref gc, .int (f_BC_quote no wd sl ms sc ch ru rg hh).2.2.1])), (gm, .inl (cI, 32, .inl (f_BC_quote no wd sl ms sc ch ru rg hh).2.2.2.1)), (gs, .inl (cI, 64, .inl (f_BC_quote no wd sl ms sc ch ru rg hh).2.2.2.2.1)), (gc, .inl (cI, 8, .inl (f_BC_quote no wd sl ms sc ch ru rg hh).2.2.2.2.2.1)), (qr, .inl (cI, 2, .inl ru)), (qg, .inl (cI, 16, .inl rg)), (qh, .inl (cI, 8, .inl (f_BC_quote no wd sl ms sc ch ru rg hh).2.2.2.2.2.2)), (qo, .inl (cJ, 1, .inr (.inl (lw_o (f_BC_quote no wd sl ms sc ch ru rg hh).1 ((f_BC_quote no wd sl ms sc ch ru rg hh).2.1) ov))))] := by rw [lw_o_0 hk0]; exact hD
      exact W.iret (v := (0 : Int32)) hx hb hr (fun t ht hW => ⟨⟨(0 : Int32), (), rfl, by rw [hk0]; rfl, by rw [ht]; exact hP, va_K.moved hW.alike hK, hD⟩, hS.F ht⟩) hS.2.2 d_LA_quote_22
    · cases hv
  · obtain ⟨hal, hout, hB, hz1, hk1⟩ := hq
    rcases hout with ⟨hk0, hv⟩ | ⟨x9, ce, nm, hv, hex, hce, hvn, hfc, -⟩
    · cases hv
    · cases hv
      rw [ht] at hce
      rw [h0] at hz1 hk1
      rw [ht] at hz1 hk1
      obtain ⟨hP, hD⟩ := va_join (wr := [(qo, .inl (cJ, 1, .inr (.inl ov)))]) (w1 := [(h, .inr (0, [.ref qf, .ref qd, .ref qi, .ref qs, .ref qr, .ref qc, .ref qg, .ref qh])), (qs, .inr (4, [.ref gm, .ref gs, .ref gc, .int (f_BC_quote no wd sl ms sc ch ru rg hh).2.2.1])), (gm, .inl (cI, 32, .inl (f_BC_quote no wd sl ms sc ch ru rg hh).2.2.2.1)), (gs, .inl (cI, 64, .inl (f_BC_quote no wd sl ms sc ch ru rg hh).2.2.2.2.1)), (gc, .inl (cI, 8, .inl (f_BC_quote no wd sl ms sc ch ru rg hh).2.2.2.2.2.1)), (qr, .inl (cI, 2, .inl ru)), (qg, .inl (cI, 16, .inl rg)), (qh, .inl (cI, 8, .inl (f_BC_quote no wd sl ms sc ch ru rg hh).2.2.2.2.2.2))]) hP hD [0, 1, 2, 3, 4, 5, 6, 7] [8] rfl rfl (by decide) (by decide) hk1 hFc (ht ▸ hB.1) hB.2.2
      have hS := lw_S hS hz1 hk1 hFc hL
      have hP := hP.sub (ws' := [(h, .inr (0, [.ref qf, .ref qd, .ref qi, .ref qs, .ref qr, .ref qc, .ref qg, .ref qh])), (qs, .inr (4, [.ref gm, .ref gs, .ref gc, .int (f_BC_quote no wd sl ms sc ch ru rg hh).2.2.1])), (gm, .inl (cI, 32, .inl (f_BC_quote no wd sl ms sc ch ru rg hh).2.2.2.1)), (gs, .inl (cI, 64, .inl (f_BC_quote no wd sl ms sc ch ru rg hh).2.2.2.2.1)), (gc, .inl (cI, 8, .inl (f_BC_quote no wd sl ms sc ch ru rg hh).2.2.2.2.2.1)), (qr, .inl (cI, 2, .inl ru)), (qg, .inl (cI, 16, .inl rg)), (qh, .inl (cI, 8, .inl (f_BC_quote no wd sl ms sc ch ru rg hh).2.2.2.2.2.2)), (qo, .inl (cJ, 1, .inr (.inl ov)))]) [1, 2, 3, 4, 5, 6, 7, 8, 0] rfl
      have hD := hD.sub (ws' := [(h, .inr (0, [.ref qf, .ref qd, .ref qi, .ref qs, .ref qr, .ref qc, .ref qg, .ref qh])), (qs, .inr (4, [.ref gm, .ref gs, .ref gc, .int (f_BC_quote no wd sl ms sc ch ru rg hh).2.2.1])), (gm, .inl (cI, 32, .inl (f_BC_quote no wd sl ms sc ch ru rg hh).2.2.2.1)), (gs, .inl (cI, 64, .inl (f_BC_quote no wd sl ms sc ch ru rg hh).2.2.2.2.1)), (gc, .inl (cI, 8, .inl (f_BC_quote no wd sl ms sc ch ru rg hh).2.2.2.2.2.1)), (qr, .inl (cI, 2, .inl ru)), (qg, .inl (cI, 16, .inl rg)), (qh, .inl (cI, 8, .inl (f_BC_quote no wd sl ms sc ch ru rg hh).2.2.2.2.2.2)), (qo, .inl (cJ, 1, .inr (.inl ov)))]) [1, 2, 3, 4, 5, 6, 7, 8, 0] (by decide) rfl
      rcases hex with ⟨hk9, rfl⟩ | ⟨hk9, rfl⟩ | ⟨hk9, rfl⟩
      · obtain ⟨z1, z2, z3, z4⟩ := lw_hit (e := e) (t := t) (ix := 13) (pc := 5) (hpc := 13) hal hown (hts _ gw_112) hpl (by rw [ht]; exact hce) hvn hfc hht (fun hf => by
          cases (show some cA = some ce.cls from fA.symm.trans hf)
          exact ⟨by decide, by decide, by decide, _, _, hts _ gw_112, fA, Or.inl ⟨aA, rfl⟩⟩)
        refine ⟨13, ce, hce, z2, z3, z4, ?_⟩
        clear z1 z2 z3 z4 hce
        generalize H1 = H at hP hS ⊢
        refine lv_astore (lv' := [(4, .ref x), (0, .ref h), (1, .int no), (2, .int wd), (3, .ref qo)]) hx hb d_LA_quote_13 hl (by decide) rfl (fun ls hl => ?_)
        refine lv_iconst (v := 1) hx hb d_LA_quote_15 (by decide) ?_
        have hP : va_P (dC, dI) classes [(h, .inr (0, [.ref qf, .ref qd, .ref qi, .ref qs, .ref qr, .ref qc, .ref qg, .ref qh])), (qs, .inr (4, [.ref gm, .ref gs, .ref gc, .int (f_BC_quote no wd sl ms sc ch ru rg hh).2.2.1])), (gm, .inl (cI, 32, .inl (f_BC_quote no wd sl ms sc ch ru rg hh).2.2.2.1)), (gs, .inl (cI, 64, .inl (f_BC_quote no wd sl ms sc ch ru rg hh).2.2.2.2.1)), (gc, .inl (cI, 8, .inl (f_BC_quote no wd sl ms sc ch ru rg hh).2.2.2.2.2.1)), (qr, .inl (cI, 2, .inl ru)), (qg, .inl (cI, 16, .inl rg)), (qh, .inl (cI, 8, .inl (f_BC_quote no wd sl ms sc ch ru rg hh).2.2.2.2.2.2)), (qo, .inl (cJ, 1, .inr (.inl (lw_o (f_BC_quote no wd sl ms sc ch ru rg hh).1 ((f_BC_quote no wd sl ms sc ch ru rg hh).2.1) ov))))] H := by rw [lw_o_n (by omega)]; exact hP
        have hD : va_D A [(h, .inr (0, [.ref qf, .ref qd, .ref qi, .ref qs, .ref qr, .ref qc, .ref qg, .ref qh])), (qs, .inr (4, [.ref gm, .ref gs, .ref gc, .int (f_BC_quote no wd sl ms sc ch ru rg hh).2.2.1])), (gm, .inl (cI, 32, .inl (f_BC_quote no wd sl ms sc ch ru rg hh).2.2.2.1)), (gs, .inl (cI, 64, .inl (f_BC_quote no wd sl ms sc ch ru rg hh).2.2.2.2.1)), (gc, .inl (cI, 8, .inl (f_BC_quote no wd sl ms sc ch ru rg hh).2.2.2.2.2.1)), (qr, .inl (cI, 2, .inl ru)), (qg, .inl (cI, 16, .inl rg)), (qh, .inl (cI, 8, .inl (f_BC_quote no wd sl ms sc ch ru rg hh).2.2.2.2.2.2)), (qo, .inl (cJ, 1, .inr (.inl (lw_o (f_BC_quote no wd sl ms sc ch ru rg hh).1 ((f_BC_quote no wd sl ms sc ch ru rg hh).2.1) ov))))] := by rw [lw_o_n (by omega)]; exact hD
        exact W.iret (v := (1 : Int32)) hx hb hr (fun t ht hW => ⟨⟨(1 : Int32), (), rfl, by rw [hk9]; rfl, by rw [ht]; exact hP, va_K.moved hW.alike hK, hD⟩, hS.F ht⟩) hS.2.2 d_LA_quote_16
      · obtain ⟨z1, z2, z3, z4⟩ := lw_hit (e := e) (t := t) (ix := 15) (pc := 5) (hpc := 17) hal hown (hts _ gw_113) hpl (by rw [ht]; exact hce) hvn hfc hht (fun hf => by
          cases (show some cS = some ce.cls from fS.symm.trans hf)
          exact ⟨by decide, by decide, by decide, _, _, hts _ gw_112, fA, Or.inr ⟨hN (bc_ISE, bc_IAE) (by simp [bc_IAE, bc_ISE, bc_UOE]) _ _ fS fA, ⟨by decide, by decide, by decide, _, _, hts _ gw_113, fS, Or.inl ⟨aS, rfl⟩⟩⟩⟩)
        refine ⟨17, ce, hce, z2, z3, z4, ?_⟩
        clear z1 z2 z3 z4 hce
        generalize H1 = H at hP hS ⊢
        refine lv_astore (lv' := [(4, .ref x), (0, .ref h), (1, .int no), (2, .int wd), (3, .ref qo)]) hx hb d_LA_quote_17 hl (by decide) rfl (fun ls hl => ?_)
        refine lv_iconst (v := 2) hx hb d_LA_quote_19 (by decide) ?_
        have hP : va_P (dC, dI) classes [(h, .inr (0, [.ref qf, .ref qd, .ref qi, .ref qs, .ref qr, .ref qc, .ref qg, .ref qh])), (qs, .inr (4, [.ref gm, .ref gs, .ref gc, .int (f_BC_quote no wd sl ms sc ch ru rg hh).2.2.1])), (gm, .inl (cI, 32, .inl (f_BC_quote no wd sl ms sc ch ru rg hh).2.2.2.1)), (gs, .inl (cI, 64, .inl (f_BC_quote no wd sl ms sc ch ru rg hh).2.2.2.2.1)), (gc, .inl (cI, 8, .inl (f_BC_quote no wd sl ms sc ch ru rg hh).2.2.2.2.2.1)), (qr, .inl (cI, 2, .inl ru)), (qg, .inl (cI, 16, .inl rg)), (qh, .inl (cI, 8, .inl (f_BC_quote no wd sl ms sc ch ru rg hh).2.2.2.2.2.2)), (qo, .inl (cJ, 1, .inr (.inl (lw_o (f_BC_quote no wd sl ms sc ch ru rg hh).1 ((f_BC_quote no wd sl ms sc ch ru rg hh).2.1) ov))))] H := by rw [lw_o_n (by omega)]; exact hP
        have hD : va_D A [(h, .inr (0, [.ref qf, .ref qd, .ref qi, .ref qs, .ref qr, .ref qc, .ref qg, .ref qh])), (qs, .inr (4, [.ref gm, .ref gs, .ref gc, .int (f_BC_quote no wd sl ms sc ch ru rg hh).2.2.1])), (gm, .inl (cI, 32, .inl (f_BC_quote no wd sl ms sc ch ru rg hh).2.2.2.1)), (gs, .inl (cI, 64, .inl (f_BC_quote no wd sl ms sc ch ru rg hh).2.2.2.2.1)), (gc, .inl (cI, 8, .inl (f_BC_quote no wd sl ms sc ch ru rg hh).2.2.2.2.2.1)), (qr, .inl (cI, 2, .inl ru)), (qg, .inl (cI, 16, .inl rg)), (qh, .inl (cI, 8, .inl (f_BC_quote no wd sl ms sc ch ru rg hh).2.2.2.2.2.2)), (qo, .inl (cJ, 1, .inr (.inl (lw_o (f_BC_quote no wd sl ms sc ch ru rg hh).1 ((f_BC_quote no wd sl ms sc ch ru rg hh).2.1) ov))))] := by rw [lw_o_n (by omega)]; exact hD
        exact W.iret (v := (2 : Int32)) hx hb hr (fun t ht hW => ⟨⟨(2 : Int32), (), rfl, by rw [hk9]; rfl, by rw [ht]; exact hP, va_K.moved hW.alike hK, hD⟩, hS.F ht⟩) hS.2.2 d_LA_quote_20
      · exfalso; omega
-- LA_hash
theorem d_LA_hash_0 : decode method_14_code 0 = .ok (.aload 4, 2) := by decide +kernel
theorem d_LA_hash_2 : decode method_14_code 2 = .ok (.iconst 0, 1) := by decide +kernel
theorem d_LA_hash_3 : decode method_14_code 3 = .ok (.aload_n 0, 1) := by decide +kernel
theorem d_LA_hash_4 : decode method_14_code 4 = .ok (.iload_n 1, 1) := by decide +kernel
theorem d_LA_hash_5 : decode method_14_code 5 = .ok (.iload_n 2, 1) := by decide +kernel
theorem d_LA_hash_6 : decode method_14_code 6 = .ok (.iload_n 3, 1) := by decide +kernel
theorem d_LA_hash_7 : decode method_14_code 7 = .ok (.invokevirtual 55, 3) := by decide +kernel
theorem d_LA_hash_10 : decode method_14_code 10 = .ok (.i2l, 1) := by decide +kernel
theorem d_LA_hash_11 : decode method_14_code 11 = .ok (.lastore, 1) := by decide +kernel
theorem d_LA_hash_12 : decode method_14_code 12 = .ok (.goto 7, 3) := by decide +kernel
theorem d_LA_hash_15 : decode method_14_code 15 = .ok (.astore 5, 2) := by decide +kernel
theorem d_LA_hash_17 : decode method_14_code 17 = .ok (.iconst 1, 1) := by decide +kernel
theorem d_LA_hash_18 : decode method_14_code 18 = .ok (.ireturn, 1) := by decide +kernel
theorem d_LA_hash_19 : decode method_14_code 19 = .ok (.iconst 0, 1) := by decide +kernel
theorem d_LA_hash_20 : decode method_14_code 20 = .ok (.ireturn, 1) := by decide +kernel
def y_LA_hash : MethodName := ⟨"BootChainLaw", "hash", "(LBootChain;III[J)I"⟩
def ws_LA_hash : List Cond := .codeWith y_LA_hash method_14_code 6 (some .int) [(0, 12, 15, 13)] :: bc_G
set_option maxHeartbeats 4000000 in
set_option maxRecDepth 100000 in
theorem c_LA_hash (l : Launch) (hlt : l.stackTraces = false) (dC : Nat → ClassId) (dI : Nat → Nat → Nat) (cI cJ : ClassId) (h qf qd qi qs qr qc qg qh gm gs gc qo : Nat) (sz : Nat) (fi : Int32) (co : Int32) (wd : Int32) (sl : Int32) (ms : Nat → Int32) (sc : Nat → Int32) (ch : Nat → Int32) (hh : Nat → Int32) (ov : Nat → Int64) (hk : (f_BC_hash fi co wd sl ms sc ch hh).1 = 0 ∨ (f_BC_hash fi co wd sl ms sc ch hh).1 = 1) : Met l y_LA_hash ws_LA_hash ({ frames := 7, cells := 1, slots := 6, locals := 123 } : Room) (va_Pc [.ref h, .int fi, .int co, .int wd, .ref qo] (fun U => bc_pre (dC, dI) cI cJ [(h, .inr (0, [.ref qf, .ref qd, .ref qi, .ref qs, .ref qr, .ref qc, .ref qg, .ref qh])), (qs, .inr (4, [.ref gm, .ref gs, .ref gc, .int sl])), (gm, .inl (cI, 32, .inl ms)), (gs, .inl (cI, 64, .inl sc)), (gc, .inl (cI, 8, .inl ch)), (qh, .inl (cI, 8, .inl hh)), (qo, .inl (cJ, 1, .inr (.inl ov)))] sz U ∧ lw_N U)) (va_Qi (fun (r : Int32) (_ : Unit) => r = lwA (f_BC_hash fi co wd sl ms sc ch hh).1) (fun _ => bc_post (dC, dI) cI cJ (va_A [(h, .inr (0, [.ref qf, .ref qd, .ref qi, .ref qs, .ref qr, .ref qc, .ref qg, .ref qh])), (qs, .inr (4, [.ref gm, .ref gs, .ref gc, .int sl])), (gm, .inl (cI, 32, .inl ms)), (gs, .inl (cI, 64, .inl sc)), (gc, .inl (cI, 8, .inl ch)), (qh, .inl (cI, 8, .inl hh)), (qo, .inl (cJ, 1, .inr (.inl ov)))] sz) [(h, .inr (0, [.ref qf, .ref qd, .ref qi, .ref qs, .ref qr, .ref qc, .ref qg, .ref qh])), (qs, .inr (4, [.ref gm, .ref gs, .ref gc, .int (f_BC_hash fi co wd sl ms sc ch hh).2.2.1])), (gm, .inl (cI, 32, .inl (f_BC_hash fi co wd sl ms sc ch hh).2.2.2.1)), (gs, .inl (cI, 64, .inl (f_BC_hash fi co wd sl ms sc ch hh).2.2.2.2.1)), (gc, .inl (cI, 8, .inl (f_BC_hash fi co wd sl ms sc ch hh).2.2.2.2.2.1)), (qh, .inl (cI, 8, .inl (f_BC_hash fi co wd sl ms sc ch hh).2.2.2.2.2.2)), (qo, .inl (cJ, 1, .inr (.inl (lw_o (f_BC_hash fi co wd sl ms sc ch hh).1 ((f_BC_hash fi co wd sl ms sc ch hh).2.1) ov))))]) (va_A [(h, .inr (0, [.ref qf, .ref qd, .ref qi, .ref qs, .ref qr, .ref qc, .ref qg, .ref qh])), (qs, .inr (4, [.ref gm, .ref gs, .ref gc, .int sl])), (gm, .inl (cI, 32, .inl ms)), (gs, .inl (cI, 64, .inl sc)), (gc, .inl (cI, 8, .inl ch)), (qh, .inl (cI, 8, .inl hh)), (qo, .inl (cJ, 1, .inr (.inl ov)))] sz)) 1 6 (va_A [(h, .inr (0, [.ref qf, .ref qd, .ref qi, .ref qs, .ref qr, .ref qc, .ref qg, .ref qh])), (qs, .inr (4, [.ref gm, .ref gs, .ref gc, .int sl])), (gm, .inl (cI, 32, .inl ms)), (gs, .inl (cI, 64, .inl sc)), (gc, .inl (cI, 8, .inl ch)), (qh, .inl (cI, 8, .inl hh)), (qo, .inl (cJ, 1, .inr (.inl ov)))] sz) := by
  refine va_MetW (cc := method_14_code) (maxL := 6) (ret := some .int) (hh := [(0, 12, 15, 13)]) (by decide) rfl ?_
  intro p e s m args below meth c s₁ B hml hv
  obtain ⟨rfl, ⟨hsz, hP, hK, hD0, hE⟩, hN⟩ := hv
  have hx := B.exec
  have hb := B.bytes
  have hr := B.returns
  have hts : ∀ w ∈ bc_G, w.before ([.ref h, .int fi, .int co, .int wd, .ref qo] : List Value).toArray s = true := fun w h => atoms_spec (ws := ws_LA_hash) B.pre w (List.mem_cons_of_mem _ h)
  have hown : s.vm.findClass "BootChainLaw" = some m.cls := findClass_of_methodNamed B.named
  have hht := lw_table B (atoms_spec (ws := ws_LA_hash) B.pre _ List.mem_cons_self)
  have hpl : e.platform.magicAccessors = ({} : Platform).magicAccessors := by rw [B.admits.platform]
  subst hsz
  have hD := hD0.self (sz := s.heap.size)
  generalize hAe : va_A [(h, .inr (0, [.ref qf, .ref qd, .ref qi, .ref qs, .ref qr, .ref qc, .ref qg, .ref qh])), (qs, .inr (4, [.ref gm, .ref gs, .ref gc, .int sl])), (gm, .inl (cI, 32, .inl ms)), (gs, .inl (cI, 64, .inl sc)), (gc, .inl (cI, 8, .inl ch)), (qh, .inl (cI, 8, .inl hh)), (qo, .inl (cJ, 1, .inr (.inl ov)))] s.heap.size = A at hD hE ⊢
  have hA : ∀ q : Nat, s.heap.size ≤ q → A q := fun q h => by rw [← hAe]; exact Or.inr h
  have hS : va_S A s.heap s.heap [] := va_S.rf
  obtain ⟨cA, cA2, fA, fA2, aA⟩ := Cond.castable_spec (va_Nw.use (A := ([.ref h, .int fi, .int co, .int wd, .ref qo] : List Value).toArray) rfl (hE.2.2.2.2 (Cond.castable "java/lang/IllegalArgumentException" "java/lang/IllegalArgumentException") (List.mem_of_getElem? (i := 0) rfl)))
  cases fA.symm.trans fA2
  have hl := lv_entry ([.ref h, .int fi, .int co, .int wd, .ref qo]) (n := 6) (Nat.le_of_ble_eq_true rfl)
  rw [lg_entry_eq]
  generalize (lg_sl ([.ref h, .int fi, .int co, .int wd, .ref qo]) ++ List.replicate (6 - (lg_sl ([.ref h, .int fi, .int co, .int wd, .ref qo])).length) Slot.unset).toArray = ls at hl ⊢
  have hl : lv_has ls 6 [(0, .ref h), (1, .int fi), (2, .int co), (3, .int wd), (4, .ref qo)] := hl
  refine lv_aload hx hb d_LA_hash_0 (lv_at hl 4 rfl) ?_
  refine lv_iconst (v := 0) hx hb d_LA_hash_2 (by decide) ?_
  refine lv_aload_n hx hb d_LA_hash_3 rfl (lv_at hl 0 rfl) ?_
  refine lv_iload_n hx hb d_LA_hash_4 rfl (lv_at hl 1 rfl) ?_
  refine lv_iload_n hx hb d_LA_hash_5 rfl (lv_at hl 2 rfl) ?_
  refine lv_iload_n hx hb d_LA_hash_6 rfl (lv_at hl 3 rfl) ?_
  have hPc := hP.sub (ws' := [(h, .inr (0, [.ref qf, .ref qd, .ref qi, .ref qs, .ref qr, .ref qc, .ref qg, .ref qh])), (qs, .inr (4, [.ref gm, .ref gs, .ref gc, .int sl])), (gm, .inl (cI, 32, .inl ms)), (gs, .inl (cI, 64, .inl sc)), (gc, .inl (cI, 8, .inl ch)), (qh, .inl (cI, 8, .inl hh))]) [0, 1, 2, 3, 4, 5] rfl
  have hDc := hD.sub (ws' := [(h, .inr (0, [.ref qf, .ref qd, .ref qi, .ref qs, .ref qr, .ref qc, .ref qg, .ref qh])), (qs, .inr (4, [.ref gm, .ref gs, .ref gc, .int sl])), (gm, .inl (cI, 32, .inl ms)), (gs, .inl (cI, 64, .inl sc)), (gc, .inl (cI, 8, .inl ch)), (qh, .inl (cI, 8, .inl hh))]) [0, 1, 2, 3, 4, 5] (by decide) rfl
  have hFc := va_free (wc := [(h, .inr (0, [.ref qf, .ref qd, .ref qi, .ref qs, .ref qr, .ref qc, .ref qg, .ref qh])), (qs, .inr (4, [.ref gm, .ref gs, .ref gc, .int sl])), (gm, .inl (cI, 32, .inl ms)), (gs, .inl (cI, 64, .inl sc)), (gc, .inl (cI, 8, .inl ch)), (qh, .inl (cI, 8, .inl hh))]) hD hS hA [0, 1, 2, 3, 4, 5] rfl
  refine tx_callW (own := "BootChainLaw") (lw_runV (As := [.int fi, .int co, .int wd]) (rest := [.int (0 : Int32), .ref qo]) ⟨hx, hb, hml, hown, hts⟩ (c_BC_hash l hlt dC dI cI cJ h qf qd qi qs qr qc qg qh gm gs gc _ fi co wd sl ms sc ch hh) ⟨callB_of 3 hts (bc_good gw_439) rfl rfl rfl (hts _ gw_1) (hts _ gw_436) (by decide +kernel) ⟨Nat.le_of_ble_eq_true rfl, Nat.le_of_ble_eq_true rfl⟩, (hts _ gw_437), (hts _ gw_438)⟩ ⟨bc_blind, va_recv (q0 := 0) hK hP (q := (R_BC, F_BC, 8)) rfl rfl, fun U hU hW => ⟨rfl, bc_give hPc hDc hK hE hS hFc U hU hW⟩⟩ rfl rfl hl.1 rfl (lv_room (Nat.le_of_ble_eq_true rfl)) d_LA_hash_7 ⟨Nat.le_of_ble_eq_true rfl, Nat.le_of_ble_eq_true rfl⟩) hown (fun v st₀ t H1 L h0 ht hvm hq hL => ?_) (fun x st₀ t H1 L h0 ht hvm hq hL => ?_)
  · obtain ⟨hal, hout, hB, hz1, hk1⟩ := hq
    rcases hout with ⟨hk0, hv⟩ | ⟨x9, ce, nm, hv, -⟩
    · cases hv
      rw [h0] at hz1 hk1
      rw [ht] at hz1 hk1
      obtain ⟨hP, hD⟩ := va_join (wr := [(qo, .inl (cJ, 1, .inr (.inl ov)))]) (w1 := [(h, .inr (0, [.ref qf, .ref qd, .ref qi, .ref qs, .ref qr, .ref qc, .ref qg, .ref qh])), (qs, .inr (4, [.ref gm, .ref gs, .ref gc, .int (f_BC_hash fi co wd sl ms sc ch hh).2.2.1])), (gm, .inl (cI, 32, .inl (f_BC_hash fi co wd sl ms sc ch hh).2.2.2.1)), (gs, .inl (cI, 64, .inl (f_BC_hash fi co wd sl ms sc ch hh).2.2.2.2.1)), (gc, .inl (cI, 8, .inl (f_BC_hash fi co wd sl ms sc ch hh).2.2.2.2.2.1)), (qh, .inl (cI, 8, .inl (f_BC_hash fi co wd sl ms sc ch hh).2.2.2.2.2.2))]) hP hD [0, 1, 2, 3, 4, 5] [6] rfl rfl (by decide) (by decide) hk1 hFc (ht ▸ hB.1) hB.2.2
      have hS := lw_S hS hz1 hk1 hFc hL
      have hP := hP.sub (ws' := [(h, .inr (0, [.ref qf, .ref qd, .ref qi, .ref qs, .ref qr, .ref qc, .ref qg, .ref qh])), (qs, .inr (4, [.ref gm, .ref gs, .ref gc, .int (f_BC_hash fi co wd sl ms sc ch hh).2.2.1])), (gm, .inl (cI, 32, .inl (f_BC_hash fi co wd sl ms sc ch hh).2.2.2.1)), (gs, .inl (cI, 64, .inl (f_BC_hash fi co wd sl ms sc ch hh).2.2.2.2.1)), (gc, .inl (cI, 8, .inl (f_BC_hash fi co wd sl ms sc ch hh).2.2.2.2.2.1)), (qh, .inl (cI, 8, .inl (f_BC_hash fi co wd sl ms sc ch hh).2.2.2.2.2.2)), (qo, .inl (cJ, 1, .inr (.inl ov)))]) [1, 2, 3, 4, 5, 6, 0] rfl
      have hD := hD.sub (ws' := [(h, .inr (0, [.ref qf, .ref qd, .ref qi, .ref qs, .ref qr, .ref qc, .ref qg, .ref qh])), (qs, .inr (4, [.ref gm, .ref gs, .ref gc, .int (f_BC_hash fi co wd sl ms sc ch hh).2.2.1])), (gm, .inl (cI, 32, .inl (f_BC_hash fi co wd sl ms sc ch hh).2.2.2.1)), (gs, .inl (cI, 64, .inl (f_BC_hash fi co wd sl ms sc ch hh).2.2.2.2.1)), (gc, .inl (cI, 8, .inl (f_BC_hash fi co wd sl ms sc ch hh).2.2.2.2.2.1)), (qh, .inl (cI, 8, .inl (f_BC_hash fi co wd sl ms sc ch hh).2.2.2.2.2.2)), (qo, .inl (cJ, 1, .inr (.inl ov)))]) [1, 2, 3, 4, 5, 6, 0] (by decide) rfl
      generalize H1 = H at hP hS ⊢
      refine lv_i2l (v := ((((f_BC_hash fi co wd sl ms sc ch hh).2.1)).toInt64)) hx hb d_LA_hash_10 rfl ?_
      refine va_last hx hb hK hP hD hS 6 1 rfl rfl (by unfold vp_in; decide +kernel) d_LA_hash_11 (fun H locs hP hD hS => ?_)
      refine lv_goto (tgt := 19) hx hb d_LA_hash_12 (by decide) ?_
      refine lv_iconst (v := 0) hx hb d_LA_hash_19 (by decide) ?_
      have hP : va_P (dC, dI) classes [(h, .inr (0, [.ref qf, .ref qd, .ref qi, .ref qs, .ref qr, .ref qc, .ref qg, .ref qh])), (qs, .inr (4, [.ref gm, .ref gs, .ref gc, .int (f_BC_hash fi co wd sl ms sc ch hh).2.2.1])), (gm, .inl (cI, 32, .inl (f_BC_hash fi co wd sl ms sc ch hh).2.2.2.1)), (gs, .inl (cI, 64, .inl (f_BC_hash fi co wd sl ms sc ch hh).2.2.2.2.1)), (gc, .inl (cI, 8, .inl (f_BC_hash fi co wd sl ms sc ch hh).2.2.2.2.2.1)), (qh, .inl (cI, 8, .inl (f_BC_hash fi co wd sl ms sc ch hh).2.2.2.2.2.2)), (qo, .inl (cJ, 1, .inr (.inl (lw_o (f_BC_hash fi co wd sl ms sc ch hh).1 ((f_BC_hash fi co wd sl ms sc ch hh).2.1) ov))))] H := by rw [lw_o_0 hk0]; exact hP
      have hD : va_D A [(h, .inr (0, [.ref qf, .ref qd, .ref qi, .ref qs, .ref qr, .ref qc, .ref qg, .ref qh])), (qs, .inr (4, [.ref gm, .ref gs, .ref gc, .int (f_BC_hash fi co wd sl ms sc ch hh).2.2.1])), (gm, .inl (cI, 32, .inl (f_BC_hash fi co wd sl ms sc ch hh).2.2.2.1)), (gs, .inl (cI, 64, .inl (f_BC_hash fi co wd sl ms sc ch hh).2.2.2.2.1)), (gc, .inl (cI, 8, .inl (f_BC_hash fi co wd sl ms sc ch hh).2.2.2.2.2.1)), (qh, .inl (cI, 8, .inl (f_BC_hash fi co wd sl ms sc ch hh).2.2.2.2.2.2)), (qo, .inl (cJ, 1, .inr (.inl (lw_o (f_BC_hash fi co wd sl ms sc ch hh).1 ((f_BC_hash fi co wd sl ms sc ch hh).2.1) ov))))] := by rw [lw_o_0 hk0]; exact hD
      exact W.iret (v := (0 : Int32)) hx hb hr (fun t ht hW => ⟨⟨(0 : Int32), (), rfl, by rw [hk0]; rfl, by rw [ht]; exact hP, va_K.moved hW.alike hK, hD⟩, hS.F ht⟩) hS.2.2 d_LA_hash_20
    · cases hv
  · obtain ⟨hal, hout, hB, hz1, hk1⟩ := hq
    rcases hout with ⟨hk0, hv⟩ | ⟨x9, ce, nm, hv, hex, hce, hvn, hfc, -⟩
    · cases hv
    · cases hv
      rw [ht] at hce
      rw [h0] at hz1 hk1
      rw [ht] at hz1 hk1
      obtain ⟨hP, hD⟩ := va_join (wr := [(qo, .inl (cJ, 1, .inr (.inl ov)))]) (w1 := [(h, .inr (0, [.ref qf, .ref qd, .ref qi, .ref qs, .ref qr, .ref qc, .ref qg, .ref qh])), (qs, .inr (4, [.ref gm, .ref gs, .ref gc, .int (f_BC_hash fi co wd sl ms sc ch hh).2.2.1])), (gm, .inl (cI, 32, .inl (f_BC_hash fi co wd sl ms sc ch hh).2.2.2.1)), (gs, .inl (cI, 64, .inl (f_BC_hash fi co wd sl ms sc ch hh).2.2.2.2.1)), (gc, .inl (cI, 8, .inl (f_BC_hash fi co wd sl ms sc ch hh).2.2.2.2.2.1)), (qh, .inl (cI, 8, .inl (f_BC_hash fi co wd sl ms sc ch hh).2.2.2.2.2.2))]) hP hD [0, 1, 2, 3, 4, 5] [6] rfl rfl (by decide) (by decide) hk1 hFc (ht ▸ hB.1) hB.2.2
      have hS := lw_S hS hz1 hk1 hFc hL
      have hP := hP.sub (ws' := [(h, .inr (0, [.ref qf, .ref qd, .ref qi, .ref qs, .ref qr, .ref qc, .ref qg, .ref qh])), (qs, .inr (4, [.ref gm, .ref gs, .ref gc, .int (f_BC_hash fi co wd sl ms sc ch hh).2.2.1])), (gm, .inl (cI, 32, .inl (f_BC_hash fi co wd sl ms sc ch hh).2.2.2.1)), (gs, .inl (cI, 64, .inl (f_BC_hash fi co wd sl ms sc ch hh).2.2.2.2.1)), (gc, .inl (cI, 8, .inl (f_BC_hash fi co wd sl ms sc ch hh).2.2.2.2.2.1)), (qh, .inl (cI, 8, .inl (f_BC_hash fi co wd sl ms sc ch hh).2.2.2.2.2.2)), (qo, .inl (cJ, 1, .inr (.inl ov)))]) [1, 2, 3, 4, 5, 6, 0] rfl
      have hD := hD.sub (ws' := [(h, .inr (0, [.ref qf, .ref qd, .ref qi, .ref qs, .ref qr, .ref qc, .ref qg, .ref qh])), (qs, .inr (4, [.ref gm, .ref gs, .ref gc, .int (f_BC_hash fi co wd sl ms sc ch hh).2.2.1])), (gm, .inl (cI, 32, .inl (f_BC_hash fi co wd sl ms sc ch hh).2.2.2.1)), (gs, .inl (cI, 64, .inl (f_BC_hash fi co wd sl ms sc ch hh).2.2.2.2.1)), (gc, .inl (cI, 8, .inl (f_BC_hash fi co wd sl ms sc ch hh).2.2.2.2.2.1)), (qh, .inl (cI, 8, .inl (f_BC_hash fi co wd sl ms sc ch hh).2.2.2.2.2.2)), (qo, .inl (cJ, 1, .inr (.inl ov)))]) [1, 2, 3, 4, 5, 6, 0] (by decide) rfl
      rcases hex with ⟨hk9, rfl⟩ | ⟨hk9, rfl⟩ | ⟨hk9, rfl⟩
      · obtain ⟨z1, z2, z3, z4⟩ := lw_hit (e := e) (t := t) (ix := 13) (pc := 7) (hpc := 15) hal hown (hts _ gw_112) hpl (by rw [ht]; exact hce) hvn hfc hht (fun hf => by
          cases (show some cA = some ce.cls from fA.symm.trans hf)
          exact ⟨by decide, by decide, by decide, _, _, hts _ gw_112, fA, Or.inl ⟨aA, rfl⟩⟩)
        refine ⟨15, ce, hce, z2, z3, z4, ?_⟩
        clear z1 z2 z3 z4 hce
        generalize H1 = H at hP hS ⊢
        refine lv_astore (lv' := [(5, .ref x), (0, .ref h), (1, .int fi), (2, .int co), (3, .int wd), (4, .ref qo)]) hx hb d_LA_hash_15 hl (by decide) rfl (fun ls hl => ?_)
        refine lv_iconst (v := 1) hx hb d_LA_hash_17 (by decide) ?_
        have hP : va_P (dC, dI) classes [(h, .inr (0, [.ref qf, .ref qd, .ref qi, .ref qs, .ref qr, .ref qc, .ref qg, .ref qh])), (qs, .inr (4, [.ref gm, .ref gs, .ref gc, .int (f_BC_hash fi co wd sl ms sc ch hh).2.2.1])), (gm, .inl (cI, 32, .inl (f_BC_hash fi co wd sl ms sc ch hh).2.2.2.1)), (gs, .inl (cI, 64, .inl (f_BC_hash fi co wd sl ms sc ch hh).2.2.2.2.1)), (gc, .inl (cI, 8, .inl (f_BC_hash fi co wd sl ms sc ch hh).2.2.2.2.2.1)), (qh, .inl (cI, 8, .inl (f_BC_hash fi co wd sl ms sc ch hh).2.2.2.2.2.2)), (qo, .inl (cJ, 1, .inr (.inl (lw_o (f_BC_hash fi co wd sl ms sc ch hh).1 ((f_BC_hash fi co wd sl ms sc ch hh).2.1) ov))))] H := by rw [lw_o_n (by omega)]; exact hP
        have hD : va_D A [(h, .inr (0, [.ref qf, .ref qd, .ref qi, .ref qs, .ref qr, .ref qc, .ref qg, .ref qh])), (qs, .inr (4, [.ref gm, .ref gs, .ref gc, .int (f_BC_hash fi co wd sl ms sc ch hh).2.2.1])), (gm, .inl (cI, 32, .inl (f_BC_hash fi co wd sl ms sc ch hh).2.2.2.1)), (gs, .inl (cI, 64, .inl (f_BC_hash fi co wd sl ms sc ch hh).2.2.2.2.1)), (gc, .inl (cI, 8, .inl (f_BC_hash fi co wd sl ms sc ch hh).2.2.2.2.2.1)), (qh, .inl (cI, 8, .inl (f_BC_hash fi co wd sl ms sc ch hh).2.2.2.2.2.2)), (qo, .inl (cJ, 1, .inr (.inl (lw_o (f_BC_hash fi co wd sl ms sc ch hh).1 ((f_BC_hash fi co wd sl ms sc ch hh).2.1) ov))))] := by rw [lw_o_n (by omega)]; exact hD
        exact W.iret (v := (1 : Int32)) hx hb hr (fun t ht hW => ⟨⟨(1 : Int32), (), rfl, by rw [hk9]; rfl, by rw [ht]; exact hP, va_K.moved hW.alike hK, hD⟩, hS.F ht⟩) hS.2.2 d_LA_hash_18
      · exfalso; omega
      · exfalso; omega
