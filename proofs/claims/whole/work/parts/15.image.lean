theorem p_cntL (fi co sl : Int32) (ms sc ch : Nat → Int32) : ∀ (n : Nat) (x y : Int32) (g : Nat → Int32), (0 ≤ y ∧ y ≤ 24) → 0 ≤ (f_SH_addCounting_2 fi co sl ms sc ch n x y g).1 ∧ (f_SH_addCounting_2 fi co sl ms sc ch n x y g).1 ≤ 24 := by
  intro n
  induction n with
  | zero => intro x y g h; exact h
  | succ n ih =>
    intro x y g h
    rw [f_SH_addCounting_2]
    split
    · exact h
    · exact ih _ _ _ (p_add24 _ _ _ _ _ h)
theorem p_cnt (fi co sl : Int32) (ms sc ch : Nat → Int32) (h : 0 ≤ sl ∧ sl ≤ 24) : 0 ≤ (f_SH_addCounting fi co sl ms sc ch).1 ∧ (f_SH_addCounting fi co sl ms sc ch).1 ≤ 24 := p_cntL _ _ _ _ _ _ _ _ _ _ h
theorem p_rowL (N : Nat) (fr co sl : Int32) (ms sc ch rr : Nat → Int32) : ∀ (n : Nat) (x y : Int32) (g : Nat → Int32), (0 ≤ y ∧ y ≤ 24) → 0 ≤ (f_SH_addRow_3 N fr co sl ms sc ch rr n x y g).1 ∧ (f_SH_addRow_3 N fr co sl ms sc ch rr n x y g).1 ≤ 24 := by
  intro n
  induction n with
  | zero => intro x y g h; exact h
  | succ n ih =>
    intro x y g h
    rw [f_SH_addRow_3]
    split
    · exact h
    · exact ih _ _ _ (p_add24 _ _ _ _ _ h)
theorem p_row (N : Nat) (fr co sl : Int32) (ms sc ch rr : Nat → Int32) (h : 0 ≤ sl ∧ sl ≤ 24) : 0 ≤ (f_SH_addRow N fr co sl ms sc ch rr).1 ∧ (f_SH_addRow N fr co sl ms sc ch rr).1 ≤ 24 := p_rowL _ _ _ _ _ _ _ _ _ _ _ _ h
theorem b24 : (0 : Int32) ≤ 0 ∧ (0 : Int32) ≤ 24 := by decide
theorem ix_slot {so x : Int32} (hs : 0 ≤ so ∧ so < 4) (h0 : 0 ≤ x) (h1 : ¬ 16 ≤ x) : vp_in (f_FL_indexOf so x) 70 := by
  obtain ⟨a, ha, rfl⟩ := nI_of (Int32.not_lt.mpr hs.1)
  obtain ⟨b, hb, rfl⟩ := nI_of (Int32.not_lt.mpr h0)
  have h2 := hs.2
  rw [show (4 : Int32) = nI 4 from rfl, nI_ltI ha (by decide)] at h2
  rw [show (16 : Int32) = nI 16 from rfl, nI_leI (by decide) hb] at h1
  unfold f_FL_indexOf
  rw [if_neg (by rw [show (4 : Int32) = nI 4 from rfl, nI_leI (by decide) ha]; omega), show (16 : Int32) = nI 16 from rfl, pk_mul, nI_add]
  exact vp_in_nI (by omega) (by decide)
theorem hz_of {x : Int32} (h : ¬ (24 : Int32) < (x &&& 255)) : 0 ≤ (x &&& 255) ∧ (x &&& 255) ≤ 24 := by
  refine ⟨?_, Int32.not_lt.mp h⟩
  obtain ⟨j, hj, he⟩ := pk_andE x 8 (m := 255) (by decide)
  rw [he]
  exact nI_pos' (by omega)

-- IM_versionToldBy
theorem d_IM_versionToldBy_0 : decode prog_4_method_2_code 0 = .ok (.iload_n 0, 1) := by decide +kernel
theorem d_IM_versionToldBy_1 : decode prog_4_method_2_code 1 = .ok (.bipush 8, 2) := by decide +kernel
theorem d_IM_versionToldBy_3 : decode prog_4_method_2_code 3 = .ok (.iushr, 1) := by decide +kernel
theorem d_IM_versionToldBy_4 : decode prog_4_method_2_code 4 = .ok (.sipush 255, 3) := by decide +kernel
theorem d_IM_versionToldBy_7 : decode prog_4_method_2_code 7 = .ok (.iand, 1) := by decide +kernel
theorem d_IM_versionToldBy_8 : decode prog_4_method_2_code 8 = .ok (.ireturn, 1) := by decide +kernel
def y_IM_versionToldBy : MethodName := ⟨"BootChain$Image", "versionToldBy", "(I)I"⟩
def ws_IM_versionToldBy : List Cond := .code y_IM_versionToldBy prog_4_method_2_code 1 (some .int) :: bc_G
def f_IM_versionToldBy (hd : Int32) : Int32 := ((ju hd (8 : Int32)) &&& (255 : Int32))
set_option maxHeartbeats 4000000 in
set_option maxRecDepth 100000 in
theorem c_IM_versionToldBy (l : Launch) (dC : Nat → ClassId) (dI : Nat → Nat → Nat) (cI cJ : ClassId) (sz : Nat) (hd : Int32) : Met l y_IM_versionToldBy ws_IM_versionToldBy ({ frames := 0, cells := 0, slots := 0, locals := 0 } : Room) (va_Pc [.int hd] (bc_pre (dC, dI) cI cJ [] sz)) (va_Qi (fun (r : Int32) (_ : Unit) => r = (f_IM_versionToldBy hd)) (fun _ => bc_post (dC, dI) cI cJ (va_A [] sz) []) (va_A [] sz)) 0 0 (va_A [] sz) := by
  refine Met.ofW (cc := prog_4_method_2_code) (maxL := 1) (ret := (some .int)) (by decide) rfl ?_
  intro p e s m args below meth c s₁ B hml hv
  obtain ⟨rfl, hsz, hP, hK, hD0, hE⟩ := hv
  have hx := B.exec
  have hb := B.bytes
  have hr := B.returns
  have hts : ∀ w ∈ bc_G, w.before ([.int hd] : List Value).toArray s = true := fun w h => atoms_spec (ws := ws_IM_versionToldBy) B.pre w (List.mem_cons_of_mem _ h)
  have hown : s.vm.findClass "BootChain$Image" = some m.cls := findClass_of_methodNamed B.named
  have hlocks := B.notSynchronized
  subst hsz
  have hD := hD0.self (sz := s.heap.size)
  generalize hAe : va_A [] s.heap.size = A at hD hE ⊢
  have hA : ∀ q : Nat, s.heap.size ≤ q → A q := fun q h => by rw [← hAe]; exact Or.inr h
  have hS : va_S A s.heap s.heap [] := va_S.rf
  have hl := lv_entry ([.int hd]) (n := 1) (Nat.le_of_ble_eq_true rfl)
  rw [lg_entry_eq]
  generalize (lg_sl ([.int hd]) ++ List.replicate (1 - (lg_sl ([.int hd])).length) Slot.unset).toArray = ls at hl ⊢
  have hl : lv_has ls 1 [(0, .int hd)] := hl
  refine lv_iload_n hx hb d_IM_versionToldBy_0 rfl (lv_at hl 0 rfl) ?_
  refine lv_bipush (v := 8) hx hb d_IM_versionToldBy_1 (by decide) ?_
  refine lv_iushr (v := (ju hd (8 : Int32))) hx hb d_IM_versionToldBy_3 rfl ?_
  refine lv_sipush (v := 255) hx hb d_IM_versionToldBy_4 (by decide) ?_
  refine lv_iand hx hb d_IM_versionToldBy_7 ?_
  have e0 : (f_IM_versionToldBy hd) = ((ju hd (8 : Int32)) &&& (255 : Int32)) := by rw [f_IM_versionToldBy]
  rw [e0]
  exact W.iret (v := ((ju hd (8 : Int32)) &&& (255 : Int32))) hx hb hr (fun t ht hW => ⟨⟨((ju hd (8 : Int32)) &&& (255 : Int32)), (), rfl, rfl, by rw [ht]; exact hP, va_K.moved hW.alike hK, hD⟩, hS.F ht⟩) hS.2.2 d_IM_versionToldBy_8
-- IM_version
theorem d_IM_version_0 : decode prog_4_method_6_code 0 = .ok (.aload_n 0, 1) := by decide +kernel
theorem d_IM_version_1 : decode prog_4_method_6_code 1 = .ok (.getfield 9, 3) := by decide +kernel
theorem d_IM_version_4 : decode prog_4_method_6_code 4 = .ok (.iconst 0, 1) := by decide +kernel
theorem d_IM_version_5 : decode prog_4_method_6_code 5 = .ok (.iaload, 1) := by decide +kernel
theorem d_IM_version_6 : decode prog_4_method_6_code 6 = .ok (.invokestatic 33, 3) := by decide +kernel
theorem d_IM_version_9 : decode prog_4_method_6_code 9 = .ok (.ireturn, 1) := by decide +kernel
def y_IM_version : MethodName := ⟨"BootChain$Image", "version", "()I"⟩
def ws_IM_version : List Cond := .code y_IM_version prog_4_method_6_code 1 (some .int) :: bc_G
def f_IM_version (w : Nat → Int32) : Int32 := (f_IM_versionToldBy (w ((0 : Int32)).toNatClampNeg))
set_option maxHeartbeats 4000000 in
set_option maxRecDepth 100000 in
theorem c_IM_version (l : Launch) (dC : Nat → ClassId) (dI : Nat → Nat → Nat) (cI cJ : ClassId) (h hw : Nat) (sz : Nat) (w : Nat → Int32) : Met l y_IM_version ws_IM_version ({ frames := 1, cells := 0, slots := 0, locals := 20 } : Room) (va_Pc [.ref h] (bc_pre (dC, dI) cI cJ [(h, .inr (3, [.ref hw])), (hw, .inl (cI, 16, .inl w))] sz)) (va_Qi (fun (r : Int32) (_ : Unit) => r = (f_IM_version w)) (fun _ => bc_post (dC, dI) cI cJ (va_A [(h, .inr (3, [.ref hw])), (hw, .inl (cI, 16, .inl w))] sz) [(h, .inr (3, [.ref hw])), (hw, .inl (cI, 16, .inl w))]) (va_A [(h, .inr (3, [.ref hw])), (hw, .inl (cI, 16, .inl w))] sz)) 0 0 (va_A [(h, .inr (3, [.ref hw])), (hw, .inl (cI, 16, .inl w))] sz) := by
  refine Met.ofW (cc := prog_4_method_6_code) (maxL := 1) (ret := (some .int)) (by decide) rfl ?_
  intro p e s m args below meth c s₁ B hml hv
  obtain ⟨rfl, hsz, hP, hK, hD0, hE⟩ := hv
  have hx := B.exec
  have hb := B.bytes
  have hr := B.returns
  have hts : ∀ w ∈ bc_G, w.before ([.ref h] : List Value).toArray s = true := fun w h => atoms_spec (ws := ws_IM_version) B.pre w (List.mem_cons_of_mem _ h)
  have hown : s.vm.findClass "BootChain$Image" = some m.cls := findClass_of_methodNamed B.named
  have hlocks := B.notSynchronized
  subst hsz
  have hD := hD0.self (sz := s.heap.size)
  generalize hAe : va_A [(h, .inr (3, [.ref hw])), (hw, .inl (cI, 16, .inl w))] s.heap.size = A at hD hE ⊢
  have hA : ∀ q : Nat, s.heap.size ≤ q → A q := fun q h => by rw [← hAe]; exact Or.inr h
  have hS : va_S A s.heap s.heap [] := va_S.rf
  have hl := lv_entry ([.ref h]) (n := 1) (Nat.le_of_ble_eq_true rfl)
  rw [lg_entry_eq]
  generalize (lg_sl ([.ref h]) ++ List.replicate (1 - (lg_sl ([.ref h])).length) Slot.unset).toArray = ls at hl ⊢
  have hl : lv_has ls 1 [(0, .ref h)] := hl
  refine lv_aload_n hx hb d_IM_version_0 rfl (lv_at hl 0 rfl) ?_
  refine va_get (D := (dC, dI)) (ci := 3) (v := .ref hw) (C := R_IM) (T := F_IM) (N := 1) hx hb hts in_IM hown hK hP 0 rfl rfl 0 (by decide) (hts _ gw_48) (fun _ h9 => h9) rfl d_IM_version_1 ?_
  refine lv_iconst (v := 0) hx hb d_IM_version_4 (by decide) ?_
  refine va_iald hx hb hK hP 1 0 rfl rfl (by unfold vp_in; decide +kernel) d_IM_version_5 ?_
  have hPc := hP.sub (ws' := []) [] rfl
  have hDc := hD.sub (ws' := []) [] (by decide) rfl
  have hFc := va_free (wc := []) hD hS hA [] rfl
  refine va_calli (va_runS (As := [.int (w ((0 : Int32)).toNatClampNeg)]) (rest := []) ⟨hx, hb, hml, hown, hts⟩ (c_IM_versionToldBy l dC dI cI cJ _ (w ((0 : Int32)).toNatClampNeg)) ⟨callB_of 1 hts (bc_good gw_331) rfl rfl rfl (hts _ gw_4) (hts _ gw_329) (by decide +kernel) ⟨Nat.le_of_ble_eq_true rfl, Nat.le_of_ble_eq_true rfl⟩, (hts _ gw_330)⟩ ⟨bc_blind, fun U hU hW => ⟨rfl, bc_give hPc hDc hK hE hS hFc U hU hW⟩⟩ rfl rfl hl.1 rfl (lv_room (Nat.le_of_ble_eq_true rfl)) d_IM_version_6 ⟨Nat.le_of_ble_eq_true rfl, Nat.le_of_ble_eq_true rfl⟩) hS (fun q _ h => hFc q h) hFc (fun r u t H9 locs ht hvm hp hB hz1 hk1 hS => ?_)
  subst hp
  obtain ⟨hP, hD⟩ := va_join (wr := [(h, .inr (3, [.ref hw])), (hw, .inl (cI, 16, .inl w))]) (w1 := []) hP hD [] [0, 1] rfl rfl (by decide) (by decide) hk1 hFc (ht ▸ hB.1) hB.2.2
  have hP := hP.sub (ws' := [(h, .inr (3, [.ref hw])), (hw, .inl (cI, 16, .inl w))]) [0, 1] rfl
  have hD := hD.sub (ws' := [(h, .inr (3, [.ref hw])), (hw, .inl (cI, 16, .inl w))]) [0, 1] (by decide) rfl
  generalize H9 = H at hP hS ⊢
  have e0 : (f_IM_version w) = (f_IM_versionToldBy (w ((0 : Int32)).toNatClampNeg)) := by rw [f_IM_version]
  rw [e0]
  exact W.iret (v := (f_IM_versionToldBy (w ((0 : Int32)).toNatClampNeg))) hx hb hr (fun t ht hW => ⟨⟨(f_IM_versionToldBy (w ((0 : Int32)).toNatClampNeg)), (), rfl, rfl, by rw [ht]; exact hP, va_K.moved hW.alike hK, hD⟩, hS.F ht⟩) hS.2.2 d_IM_version_9
-- IM_turnOverLastWord
theorem d_IM_turnOverLastWord_0 : decode prog_4_method_13_code 0 = .ok (.aload_n 0, 1) := by decide +kernel
theorem d_IM_turnOverLastWord_1 : decode prog_4_method_13_code 1 = .ok (.getfield 9, 3) := by decide +kernel
theorem d_IM_turnOverLastWord_4 : decode prog_4_method_13_code 4 = .ok (.bipush 15, 2) := by decide +kernel
theorem d_IM_turnOverLastWord_6 : decode prog_4_method_13_code 6 = .ok (.dup2, 1) := by decide +kernel
theorem d_IM_turnOverLastWord_7 : decode prog_4_method_13_code 7 = .ok (.iaload, 1) := by decide +kernel
theorem d_IM_turnOverLastWord_8 : decode prog_4_method_13_code 8 = .ok (.iload_n 1, 1) := by decide +kernel
theorem d_IM_turnOverLastWord_9 : decode prog_4_method_13_code 9 = .ok (.ixor, 1) := by decide +kernel
theorem d_IM_turnOverLastWord_10 : decode prog_4_method_13_code 10 = .ok (.iastore, 1) := by decide +kernel
theorem d_IM_turnOverLastWord_11 : decode prog_4_method_13_code 11 = .ok (.return_, 1) := by decide +kernel
def y_IM_turnOverLastWord : MethodName := ⟨"BootChain$Image", "turnOverLastWord", "(I)V"⟩
def ws_IM_turnOverLastWord : List Cond := .code y_IM_turnOverLastWord prog_4_method_13_code 2 none :: bc_G
def f_IM_turnOverLastWord (bi : Int32) (w : Nat → Int32) : (Nat → Int32) := (upd w ((15 : Int32)).toNatClampNeg ((w ((15 : Int32)).toNatClampNeg) ^^^ bi))
set_option maxHeartbeats 4000000 in
set_option maxRecDepth 100000 in
theorem c_IM_turnOverLastWord (l : Launch) (dC : Nat → ClassId) (dI : Nat → Nat → Nat) (cI cJ : ClassId) (h hw : Nat) (sz : Nat) (bi : Int32) (w : Nat → Int32) : Met l y_IM_turnOverLastWord ws_IM_turnOverLastWord ({ frames := 0, cells := 0, slots := 0, locals := 0 } : Room) (va_Pc [.ref h, .int bi] (bc_pre (dC, dI) cI cJ [(h, .inr (3, [.ref hw])), (hw, .inl (cI, 16, .inl w))] sz)) (va_Qv (fun (_ : Unit) => True) (fun _ => bc_post (dC, dI) cI cJ (va_A [(h, .inr (3, [.ref hw])), (hw, .inl (cI, 16, .inl w))] sz) [(h, .inr (3, [.ref hw])), (hw, .inl (cI, 16, .inl (f_IM_turnOverLastWord bi w)))]) (va_A [(h, .inr (3, [.ref hw])), (hw, .inl (cI, 16, .inl w))] sz)) 0 0 (va_A [(h, .inr (3, [.ref hw])), (hw, .inl (cI, 16, .inl w))] sz) := by
  refine Met.ofW (cc := prog_4_method_13_code) (maxL := 2) (ret := none) (by decide) rfl ?_
  intro p e s m args below meth c s₁ B hml hv
  obtain ⟨rfl, hsz, hP, hK, hD0, hE⟩ := hv
  have hx := B.exec
  have hb := B.bytes
  have hr := B.returns
  have hts : ∀ w ∈ bc_G, w.before ([.ref h, .int bi] : List Value).toArray s = true := fun w h => atoms_spec (ws := ws_IM_turnOverLastWord) B.pre w (List.mem_cons_of_mem _ h)
  have hown : s.vm.findClass "BootChain$Image" = some m.cls := findClass_of_methodNamed B.named
  have hlocks := B.notSynchronized
  subst hsz
  have hD := hD0.self (sz := s.heap.size)
  generalize hAe : va_A [(h, .inr (3, [.ref hw])), (hw, .inl (cI, 16, .inl w))] s.heap.size = A at hD hE ⊢
  have hA : ∀ q : Nat, s.heap.size ≤ q → A q := fun q h => by rw [← hAe]; exact Or.inr h
  have hS : va_S A s.heap s.heap [] := va_S.rf
  have hl := lv_entry ([.ref h, .int bi]) (n := 2) (Nat.le_of_ble_eq_true rfl)
  rw [lg_entry_eq]
  generalize (lg_sl ([.ref h, .int bi]) ++ List.replicate (2 - (lg_sl ([.ref h, .int bi])).length) Slot.unset).toArray = ls at hl ⊢
  have hl : lv_has ls 2 [(0, .ref h), (1, .int bi)] := hl
  refine lv_aload_n hx hb d_IM_turnOverLastWord_0 rfl (lv_at hl 0 rfl) ?_
  refine va_get (D := (dC, dI)) (ci := 3) (v := .ref hw) (C := R_IM) (T := F_IM) (N := 1) hx hb hts in_IM hown hK hP 0 rfl rfl 0 (by decide) (hts _ gw_48) (fun _ h9 => h9) rfl d_IM_turnOverLastWord_1 ?_
  refine lv_bipush (v := 15) hx hb d_IM_turnOverLastWord_4 (by decide) ?_
  refine lv_dup2_11 hx hb d_IM_turnOverLastWord_6 rfl rfl ?_
  refine va_iald hx hb hK hP 1 0 rfl rfl (by unfold vp_in; decide +kernel) d_IM_turnOverLastWord_7 ?_
  refine lv_iload_n hx hb d_IM_turnOverLastWord_8 rfl (lv_at hl 1 rfl) ?_
  refine lv_ixor hx hb d_IM_turnOverLastWord_9 ?_
  refine va_iast hx hb hK hP hD hS 1 0 rfl rfl (by unfold vp_in; decide +kernel) d_IM_turnOverLastWord_10 (fun H locs hP hD hS => ?_)
  have hP : va_P (dC, dI) classes [(h, .inr (3, [.ref hw])), (hw, .inl (cI, 16, .inl (upd w ((15 : Int32)).toNatClampNeg ((w ((15 : Int32)).toNatClampNeg) ^^^ bi))))] H := hP
  have hD : va_D A [(h, .inr (3, [.ref hw])), (hw, .inl (cI, 16, .inl (upd w ((15 : Int32)).toNatClampNeg ((w ((15 : Int32)).toNatClampNeg) ^^^ bi))))] := hD
  have e0 : (f_IM_turnOverLastWord bi w) = (upd w ((15 : Int32)).toNatClampNeg ((w ((15 : Int32)).toNatClampNeg) ^^^ bi)) := by rw [f_IM_turnOverLastWord]
  rw [e0]
  exact W.vret hx hb hr (fun t ht hW => ⟨⟨(), rfl, trivial, by rw [ht]; exact hP, va_K.moved hW.alike hK, hD⟩, hS.F ht⟩) hS.2.2 d_IM_turnOverLastWord_11
-- IM_compose
theorem d_IM_compose_0 : decode prog_4_method_3_code 0 = .ok (.aload_n 0, 1) := by decide +kernel
theorem d_IM_compose_1 : decode prog_4_method_3_code 1 = .ok (.getfield 9, 3) := by decide +kernel
theorem d_IM_compose_4 : decode prog_4_method_3_code 4 = .ok (.iconst 0, 1) := by decide +kernel
theorem d_IM_compose_5 : decode prog_4_method_3_code 5 = .ok (.ldc 15, 2) := by decide +kernel
theorem d_IM_compose_7 : decode prog_4_method_3_code 7 = .ok (.iload_n 1, 1) := by decide +kernel
theorem d_IM_compose_8 : decode prog_4_method_3_code 8 = .ok (.imul, 1) := by decide +kernel
theorem d_IM_compose_9 : decode prog_4_method_3_code 9 = .ok (.sipush 256, 3) := by decide +kernel
theorem d_IM_compose_12 : decode prog_4_method_3_code 12 = .ok (.iload_n 2, 1) := by decide +kernel
theorem d_IM_compose_13 : decode prog_4_method_3_code 13 = .ok (.imul, 1) := by decide +kernel
theorem d_IM_compose_14 : decode prog_4_method_3_code 14 = .ok (.iadd, 1) := by decide +kernel
theorem d_IM_compose_15 : decode prog_4_method_3_code 15 = .ok (.aload_n 3, 1) := by decide +kernel
theorem d_IM_compose_16 : decode prog_4_method_3_code 16 = .ok (.getfield 16, 3) := by decide +kernel
theorem d_IM_compose_19 : decode prog_4_method_3_code 19 = .ok (.iadd, 1) := by decide +kernel
theorem d_IM_compose_20 : decode prog_4_method_3_code 20 = .ok (.iastore, 1) := by decide +kernel
theorem d_IM_compose_21 : decode prog_4_method_3_code 21 = .ok (.iconst 0, 1) := by decide +kernel
theorem d_IM_compose_22 : decode prog_4_method_3_code 22 = .ok (.istore 4, 2) := by decide +kernel
theorem d_IM_compose_24 : decode prog_4_method_3_code 24 = .ok (.iload 4, 2) := by decide +kernel
theorem d_IM_compose_26 : decode prog_4_method_3_code 26 = .ok (.aload_n 3, 1) := by decide +kernel
theorem d_IM_compose_27 : decode prog_4_method_3_code 27 = .ok (.getfield 22, 3) := by decide +kernel
theorem d_IM_compose_30 : decode prog_4_method_3_code 30 = .ok (.arraylength, 1) := by decide +kernel
theorem d_IM_compose_31 : decode prog_4_method_3_code 31 = .ok (.if_icmp .ge 25, 3) := by decide +kernel
theorem d_IM_compose_34 : decode prog_4_method_3_code 34 = .ok (.aload_n 0, 1) := by decide +kernel
theorem d_IM_compose_35 : decode prog_4_method_3_code 35 = .ok (.getfield 9, 3) := by decide +kernel
theorem d_IM_compose_38 : decode prog_4_method_3_code 38 = .ok (.iconst 1, 1) := by decide +kernel
theorem d_IM_compose_39 : decode prog_4_method_3_code 39 = .ok (.iload 4, 2) := by decide +kernel
theorem d_IM_compose_41 : decode prog_4_method_3_code 41 = .ok (.iadd, 1) := by decide +kernel
theorem d_IM_compose_42 : decode prog_4_method_3_code 42 = .ok (.aload_n 3, 1) := by decide +kernel
theorem d_IM_compose_43 : decode prog_4_method_3_code 43 = .ok (.getfield 22, 3) := by decide +kernel
theorem d_IM_compose_46 : decode prog_4_method_3_code 46 = .ok (.iload 4, 2) := by decide +kernel
theorem d_IM_compose_48 : decode prog_4_method_3_code 48 = .ok (.iaload, 1) := by decide +kernel
theorem d_IM_compose_49 : decode prog_4_method_3_code 49 = .ok (.iastore, 1) := by decide +kernel
theorem d_IM_compose_50 : decode prog_4_method_3_code 50 = .ok (.iinc 4 1, 3) := by decide +kernel
theorem d_IM_compose_53 : decode prog_4_method_3_code 53 = .ok (.goto (-29), 3) := by decide +kernel
theorem d_IM_compose_56 : decode prog_4_method_3_code 56 = .ok (.aload_n 0, 1) := by decide +kernel
theorem d_IM_compose_57 : decode prog_4_method_3_code 57 = .ok (.getfield 9, 3) := by decide +kernel
theorem d_IM_compose_60 : decode prog_4_method_3_code 60 = .ok (.bipush 7, 2) := by decide +kernel
theorem d_IM_compose_62 : decode prog_4_method_3_code 62 = .ok (.iconst 0, 1) := by decide +kernel
theorem d_IM_compose_63 : decode prog_4_method_3_code 63 = .ok (.iastore, 1) := by decide +kernel
theorem d_IM_compose_64 : decode prog_4_method_3_code 64 = .ok (.return_, 1) := by decide +kernel
def y_IM_compose : MethodName := ⟨"BootChain$Image", "compose", "(IILBootChain$Draft;)V"⟩
def ws_IM_compose : List Cond := .code y_IM_compose prog_4_method_3_code 5 none :: bc_G
def f_IM_compose_24 (sg : Int32) (ve : Int32) (w : Nat → Int32) (dl : Int32) (d : Nat → Int32) : Nat → Int32 → (Nat → Int32) → (Nat → Int32)
  | 0, x4, y1 => y1
  | n + 1, x4, y1 => if (6 : Int32) ≤ x4 then (upd y1 ((7 : Int32)).toNatClampNeg (0 : Int32)) else f_IM_compose_24 sg ve w dl d n (x4 + (1 : Int32)) (upd y1 (((1 : Int32) + x4)).toNatClampNeg (d (x4).toNatClampNeg))
def f_IM_compose (sg : Int32) (ve : Int32) (w : Nat → Int32) (dl : Int32) (d : Nat → Int32) : (Nat → Int32) := f_IM_compose_24 sg ve w dl d 7 (0 : Int32) (upd w ((0 : Int32)).toNatClampNeg ((((65536 : Int32) * sg) + ((256 : Int32) * ve)) + dl))
set_option maxHeartbeats 4000000 in
set_option maxRecDepth 100000 in
theorem c_IM_compose (l : Launch) (dC : Nat → ClassId) (dI : Nat → Nat → Nat) (cI cJ : ClassId) (h dh hw dw : Nat) (sz : Nat) (sg : Int32) (ve : Int32) (w : Nat → Int32) (dl : Int32) (d : Nat → Int32) : Met l y_IM_compose ws_IM_compose ({ frames := 0, cells := 0, slots := 0, locals := 0 } : Room) (va_Pc [.ref h, .int sg, .int ve, .ref dh] (bc_pre (dC, dI) cI cJ [(h, .inr (3, [.ref hw])), (hw, .inl (cI, 16, .inl w)), (dh, .inr (2, [.ref dw, .int dl])), (dw, .inl (cI, 6, .inl d))] sz)) (va_Qv (fun (_ : Unit) => True) (fun _ => bc_post (dC, dI) cI cJ (va_A [(h, .inr (3, [.ref hw])), (hw, .inl (cI, 16, .inl w)), (dh, .inr (2, [.ref dw, .int dl])), (dw, .inl (cI, 6, .inl d))] sz) [(h, .inr (3, [.ref hw])), (hw, .inl (cI, 16, .inl (f_IM_compose sg ve w dl d))), (dh, .inr (2, [.ref dw, .int dl])), (dw, .inl (cI, 6, .inl d))]) (va_A [(h, .inr (3, [.ref hw])), (hw, .inl (cI, 16, .inl w)), (dh, .inr (2, [.ref dw, .int dl])), (dw, .inl (cI, 6, .inl d))] sz)) 0 0 (va_A [(h, .inr (3, [.ref hw])), (hw, .inl (cI, 16, .inl w)), (dh, .inr (2, [.ref dw, .int dl])), (dw, .inl (cI, 6, .inl d))] sz) := by
  refine Met.ofW (cc := prog_4_method_3_code) (maxL := 5) (ret := none) (by decide) rfl ?_
  intro p e s m args below meth c s₁ B hml hv
  obtain ⟨rfl, hsz, hP, hK, hD0, hE⟩ := hv
  have hx := B.exec
  have hb := B.bytes
  have hr := B.returns
  have hts : ∀ w ∈ bc_G, w.before ([.ref h, .int sg, .int ve, .ref dh] : List Value).toArray s = true := fun w h => atoms_spec (ws := ws_IM_compose) B.pre w (List.mem_cons_of_mem _ h)
  have hown : s.vm.findClass "BootChain$Image" = some m.cls := findClass_of_methodNamed B.named
  have hlocks := B.notSynchronized
  subst hsz
  have hD := hD0.self (sz := s.heap.size)
  generalize hAe : va_A [(h, .inr (3, [.ref hw])), (hw, .inl (cI, 16, .inl w)), (dh, .inr (2, [.ref dw, .int dl])), (dw, .inl (cI, 6, .inl d))] s.heap.size = A at hD hE ⊢
  have hA : ∀ q : Nat, s.heap.size ≤ q → A q := fun q h => by rw [← hAe]; exact Or.inr h
  have hS : va_S A s.heap s.heap [] := va_S.rf
  have lp_24 : ∀ (n : Nat) (x4 : Int32) (y1 : Nat → Int32) (H : Heap) (locs : List Loc) (ls : Array Slot), 0 ≤ x4 ∧ x4 ≤ 6 → ((6 : Int32).toInt - x4.toInt).toNat < n → lv_has ls 5 [(0, .ref h), (3, .ref dh), (4, .int x4)] → va_P (dC, dI) classes [(h, .inr (3, [.ref hw])), (hw, .inl (cI, 16, .inl y1)), (dh, .inr (2, [.ref dw, .int dl])), (dw, .inl (cI, 6, .inl d))] H → va_D A [(h, .inr (3, [.ref hw])), (hw, .inl (cI, 16, .inl y1)), (dh, .inr (2, [.ref dw, .int dl])), (dw, .inl (cI, 6, .inl d))] → va_S A s.heap H locs → W p l e (headSpec ws_IM_compose ({ frames := 0, cells := 0, slots := 0, locals := 0 } : Room)).room s m ([.ref h, .int sg, .int ve, .ref dh] : List Value).toArray below meth c H locs 0 0 (MQ below (va_Qv (fun (_ : Unit) => True) (fun _ => bc_post (dC, dI) cI cJ A [(h, .inr (3, [.ref hw])), (hw, .inl (cI, 16, .inl (f_IM_compose_24 sg ve w dl d n x4 y1))), (dh, .inr (2, [.ref dw, .int dl])), (dw, .inl (cI, 6, .inl d))]) A) ([.ref h, .int sg, .int ve, .ref dh] : List Value).toArray s 0 0 A) (F0 m 24 ls []) := by
    intro n
    induction n with
    | zero => intro x4 y1 H locs ls hI hm; exact absurd hm (Nat.not_lt_zero _)
    | succ n ih =>
      intro x4 y1 H locs ls hI hm hl hP hD hS
      refine lv_iload hx hb d_IM_compose_24 (lv_at hl 2 rfl) ?_
      refine lv_aload_n hx hb d_IM_compose_26 rfl (lv_at hl 1 rfl) ?_
      refine va_getN (D := (dC, dI)) (ci := 2) (v := .ref dw) (C := R_DR) (T := F_DR) (N := 2) hx hb hts in_DR hown hK hP 2 rfl rfl 0 (by decide) (va_Nw.use rfl (hE.1 _ nw_2)) (fun _ h9 => h9) rfl d_IM_compose_27 ?_
      refine va_alen (v := 6) hx hb hK hP 3 0 rfl rfl rfl d_IM_compose_30 ?_
      refine lv_icmp_ge (tgt := 56) hx hb d_IM_compose_31 (by decide) (fun h2 => ?_) (fun h2 => ?_)
      · refine lv_aload_n hx hb d_IM_compose_56 rfl (lv_at hl 0 rfl) ?_
        refine va_get (D := (dC, dI)) (ci := 3) (v := .ref hw) (C := R_IM) (T := F_IM) (N := 1) hx hb hts in_IM hown hK hP 0 rfl rfl 0 (by decide) (hts _ gw_48) (fun _ h9 => h9) rfl d_IM_compose_57 ?_
        refine lv_bipush (v := 7) hx hb d_IM_compose_60 (by decide) ?_
        refine lv_iconst (v := 0) hx hb d_IM_compose_62 (by decide) ?_
        refine va_iast hx hb hK hP hD hS 1 0 rfl rfl (by first | (unfold vp_in; decide +kernel) | exact ix_lt 6 hI.1 (by assumption) rfl (by decide) | exact ix_off 1 16 6 hI.1 (by assumption) rfl (by decide) (by decide)) d_IM_compose_63 (fun H locs hP hD hS => ?_)
        have hP : va_P (dC, dI) classes [(h, .inr (3, [.ref hw])), (hw, .inl (cI, 16, .inl (upd y1 ((7 : Int32)).toNatClampNeg (0 : Int32)))), (dh, .inr (2, [.ref dw, .int dl])), (dw, .inl (cI, 6, .inl d))] H := hP
        have hD : va_D A [(h, .inr (3, [.ref hw])), (hw, .inl (cI, 16, .inl (upd y1 ((7 : Int32)).toNatClampNeg (0 : Int32)))), (dh, .inr (2, [.ref dw, .int dl])), (dw, .inl (cI, 6, .inl d))] := hD
        have e0 : (f_IM_compose_24 sg ve w dl d (n + 1) x4 y1) = (upd y1 ((7 : Int32)).toNatClampNeg (0 : Int32)) := by rw [f_IM_compose_24, if_pos h2]
        rw [e0]
        exact W.vret hx hb hr (fun t ht hW => ⟨⟨(), rfl, trivial, by rw [ht]; exact hP, va_K.moved hW.alike hK, hD⟩, hS.F ht⟩) hS.2.2 d_IM_compose_64
      · refine lv_aload_n hx hb d_IM_compose_34 rfl (lv_at hl 0 rfl) ?_
        refine va_get (D := (dC, dI)) (ci := 3) (v := .ref hw) (C := R_IM) (T := F_IM) (N := 1) hx hb hts in_IM hown hK hP 0 rfl rfl 0 (by decide) (hts _ gw_48) (fun _ h9 => h9) rfl d_IM_compose_35 ?_
        refine lv_iconst (v := 1) hx hb d_IM_compose_38 (by decide) ?_
        refine lv_iload hx hb d_IM_compose_39 (lv_at hl 2 rfl) ?_
        refine lv_iadd hx hb d_IM_compose_41 ?_
        refine lv_aload_n hx hb d_IM_compose_42 rfl (lv_at hl 1 rfl) ?_
        refine va_getN (D := (dC, dI)) (ci := 2) (v := .ref dw) (C := R_DR) (T := F_DR) (N := 2) hx hb hts in_DR hown hK hP 2 rfl rfl 0 (by decide) (va_Nw.use rfl (hE.1 _ nw_2)) (fun _ h9 => h9) rfl d_IM_compose_43 ?_
        refine lv_iload hx hb d_IM_compose_46 (lv_at hl 2 rfl) ?_
        refine va_iald hx hb hK hP 3 0 rfl rfl (by first | (unfold vp_in; decide +kernel) | exact ix_lt 6 hI.1 (by assumption) rfl (by decide) | exact ix_off 1 16 6 hI.1 (by assumption) rfl (by decide) (by decide)) d_IM_compose_48 ?_
        refine va_iast hx hb hK hP hD hS 1 0 rfl rfl (by first | (unfold vp_in; decide +kernel) | exact ix_lt 6 hI.1 (by assumption) rfl (by decide) | exact ix_off 1 16 6 hI.1 (by assumption) rfl (by decide) (by decide)) d_IM_compose_49 (fun H locs hP hD hS => ?_)
        have hP : va_P (dC, dI) classes [(h, .inr (3, [.ref hw])), (hw, .inl (cI, 16, .inl (upd y1 (((1 : Int32) + x4)).toNatClampNeg (d (x4).toNatClampNeg)))), (dh, .inr (2, [.ref dw, .int dl])), (dw, .inl (cI, 6, .inl d))] H := hP
        have hD : va_D A [(h, .inr (3, [.ref hw])), (hw, .inl (cI, 16, .inl (upd y1 (((1 : Int32) + x4)).toNatClampNeg (d (x4).toNatClampNeg)))), (dh, .inr (2, [.ref dw, .int dl])), (dw, .inl (cI, 6, .inl d))] := hD
        refine lv_iinc (k := 2) (v := (x4 + (1 : Int32))) (lv' := [(4, .int (x4 + (1 : Int32))), (0, .ref h), (3, .ref dh)]) hx hb d_IM_compose_50 hl rfl rfl (by decide) rfl (fun ls hl => ?_)
        refine lv_goto (tgt := 24) hx hb d_IM_compose_53 (by decide) ?_
        have e0 : (f_IM_compose_24 sg ve w dl d (n + 1) x4 y1) = f_IM_compose_24 sg ve w dl d n (x4 + (1 : Int32)) (upd y1 (((1 : Int32) + x4)).toNatClampNeg (d (x4).toNatClampNeg)) := by rw [f_IM_compose_24, if_neg h2]
        rw [e0]
        exact ih (x4 + (1 : Int32)) (upd y1 (((1 : Int32) + x4)).toNatClampNeg (d (x4).toNatClampNeg)) _ _ ls (lp_up hI.1 (by assumption)).1 (lp_ms hI.1 (by assumption) hm) (lv_sub hl [1, 2, 0] rfl) hP hD hS
  have hl := lv_entry ([.ref h, .int sg, .int ve, .ref dh]) (n := 5) (Nat.le_of_ble_eq_true rfl)
  rw [lg_entry_eq]
  generalize (lg_sl ([.ref h, .int sg, .int ve, .ref dh]) ++ List.replicate (5 - (lg_sl ([.ref h, .int sg, .int ve, .ref dh])).length) Slot.unset).toArray = ls at hl ⊢
  have hl : lv_has ls 5 [(0, .ref h), (1, .int sg), (2, .int ve), (3, .ref dh)] := hl
  refine lv_aload_n hx hb d_IM_compose_0 rfl (lv_at hl 0 rfl) ?_
  refine va_get (D := (dC, dI)) (ci := 3) (v := .ref hw) (C := R_IM) (T := F_IM) (N := 1) hx hb hts in_IM hown hK hP 0 rfl rfl 0 (by decide) (hts _ gw_48) (fun _ h9 => h9) rfl d_IM_compose_1 ?_
  refine lv_iconst (v := 0) hx hb d_IM_compose_4 (by decide) ?_
  refine lv_ldc (v := 65536) hx hb hown (hts _ gw_205) d_IM_compose_5 ?_
  refine lv_iload_n hx hb d_IM_compose_7 rfl (lv_at hl 1 rfl) ?_
  refine lv_imul hx hb d_IM_compose_8 ?_
  refine lv_sipush (v := 256) hx hb d_IM_compose_9 (by decide) ?_
  refine lv_iload_n hx hb d_IM_compose_12 rfl (lv_at hl 2 rfl) ?_
  refine lv_imul hx hb d_IM_compose_13 ?_
  refine lv_iadd hx hb d_IM_compose_14 ?_
  refine lv_aload_n hx hb d_IM_compose_15 rfl (lv_at hl 3 rfl) ?_
  refine va_getN (D := (dC, dI)) (ci := 2) (v := .int dl) (C := R_DR) (T := F_DR) (N := 2) hx hb hts in_DR hown hK hP 2 rfl rfl 1 (by decide) (va_Nw.use rfl (hE.1 _ nw_3)) (fun _ h9 => h9) rfl d_IM_compose_16 ?_
  refine lv_iadd hx hb d_IM_compose_19 ?_
  refine va_iast hx hb hK hP hD hS 1 0 rfl rfl (by first | (unfold vp_in; decide +kernel) | exact ix_lt 6 hI.1 (by assumption) rfl (by decide) | exact ix_off 1 16 6 hI.1 (by assumption) rfl (by decide) (by decide)) d_IM_compose_20 (fun H locs hP hD hS => ?_)
  have hP : va_P (dC, dI) classes [(h, .inr (3, [.ref hw])), (hw, .inl (cI, 16, .inl (upd w ((0 : Int32)).toNatClampNeg ((((65536 : Int32) * sg) + ((256 : Int32) * ve)) + dl)))), (dh, .inr (2, [.ref dw, .int dl])), (dw, .inl (cI, 6, .inl d))] H := hP
  have hD : va_D A [(h, .inr (3, [.ref hw])), (hw, .inl (cI, 16, .inl (upd w ((0 : Int32)).toNatClampNeg ((((65536 : Int32) * sg) + ((256 : Int32) * ve)) + dl)))), (dh, .inr (2, [.ref dw, .int dl])), (dw, .inl (cI, 6, .inl d))] := hD
  refine lv_iconst (v := 0) hx hb d_IM_compose_21 (by decide) ?_
  refine lv_istore (lv' := [(4, .int (0 : Int32)), (0, .ref h), (1, .int sg), (2, .int ve), (3, .ref dh)]) hx hb d_IM_compose_22 hl (by decide) rfl (fun ls hl => ?_)
  have e0 : (f_IM_compose sg ve w dl d) = f_IM_compose_24 sg ve w dl d 7 (0 : Int32) (upd w ((0 : Int32)).toNatClampNeg ((((65536 : Int32) * sg) + ((256 : Int32) * ve)) + dl)) := by rw [f_IM_compose]
  rw [e0]
  exact lp_24 7 (0 : Int32) (upd w ((0 : Int32)).toNatClampNeg ((((65536 : Int32) * sg) + ((256 : Int32) * ve)) + dl)) _ _ ls ⟨by decide, by decide⟩ (by decide) (lv_sub hl [1, 4, 0] rfl) hP hD hS
-- IM_load
theorem d_IM_load_0 : decode prog_4_method_4_code 0 = .ok (.iconst 0, 1) := by decide +kernel
theorem d_IM_load_1 : decode prog_4_method_4_code 1 = .ok (.istore_n 3, 1) := by decide +kernel
theorem d_IM_load_2 : decode prog_4_method_4_code 2 = .ok (.iload_n 3, 1) := by decide +kernel
theorem d_IM_load_3 : decode prog_4_method_4_code 3 = .ok (.bipush 16, 2) := by decide +kernel
theorem d_IM_load_5 : decode prog_4_method_4_code 5 = .ok (.if_icmp .ge 21, 3) := by decide +kernel
theorem d_IM_load_8 : decode prog_4_method_4_code 8 = .ok (.aload_n 0, 1) := by decide +kernel
theorem d_IM_load_9 : decode prog_4_method_4_code 9 = .ok (.getfield 9, 3) := by decide +kernel
theorem d_IM_load_12 : decode prog_4_method_4_code 12 = .ok (.iload_n 3, 1) := by decide +kernel
theorem d_IM_load_13 : decode prog_4_method_4_code 13 = .ok (.aload_n 1, 1) := by decide +kernel
theorem d_IM_load_14 : decode prog_4_method_4_code 14 = .ok (.iload_n 2, 1) := by decide +kernel
theorem d_IM_load_15 : decode prog_4_method_4_code 15 = .ok (.iload_n 3, 1) := by decide +kernel
theorem d_IM_load_16 : decode prog_4_method_4_code 16 = .ok (.invokevirtual 23, 3) := by decide +kernel
theorem d_IM_load_19 : decode prog_4_method_4_code 19 = .ok (.iastore, 1) := by decide +kernel
theorem d_IM_load_20 : decode prog_4_method_4_code 20 = .ok (.iinc 3 1, 3) := by decide +kernel
theorem d_IM_load_23 : decode prog_4_method_4_code 23 = .ok (.goto (-21), 3) := by decide +kernel
theorem d_IM_load_26 : decode prog_4_method_4_code 26 = .ok (.return_, 1) := by decide +kernel
def y_IM_load : MethodName := ⟨"BootChain$Image", "load", "(LBootChain$Flash;I)V"⟩
def ws_IM_load : List Cond := .code y_IM_load prog_4_method_4_code 4 none :: bc_G
def f_IM_load_2 (so : Int32) (w : Nat → Int32) (wl : Int32) (g : Nat → Int32) : Nat → Int32 → (Nat → Int32) → (Nat → Int32)
  | 0, x3, y1 => y1
  | n + 1, x3, y1 => if (16 : Int32) ≤ x3 then y1 else f_IM_load_2 so w wl g n (x3 + (1 : Int32)) (upd y1 (x3).toNatClampNeg (f_FL_read so x3 wl g))
def f_IM_load (so : Int32) (w : Nat → Int32) (wl : Int32) (g : Nat → Int32) : (Nat → Int32) := f_IM_load_2 so w wl g 17 (0 : Int32) w
set_option maxHeartbeats 4000000 in
set_option maxRecDepth 100000 in
theorem c_IM_load (l : Launch) (dC : Nat → ClassId) (dI : Nat → Nat → Nat) (cI cJ : ClassId) (h sh hw sw : Nat) (sz : Nat) (so : Int32) (w : Nat → Int32) (wl : Int32) (g : Nat → Int32) (hso : 0 ≤ so ∧ so < 4) : Met l y_IM_load ws_IM_load ({ frames := 2, cells := 0, slots := 0, locals := 43 } : Room) (va_Pc [.ref h, .ref sh, .int so] (bc_pre (dC, dI) cI cJ [(h, .inr (3, [.ref hw])), (hw, .inl (cI, 16, .inl w)), (sh, .inr (1, [.ref sw, .int wl])), (sw, .inl (cI, 70, .inl g))] sz)) (va_Qv (fun (_ : Unit) => True) (fun _ => bc_post (dC, dI) cI cJ (va_A [(h, .inr (3, [.ref hw])), (hw, .inl (cI, 16, .inl w)), (sh, .inr (1, [.ref sw, .int wl])), (sw, .inl (cI, 70, .inl g))] sz) [(h, .inr (3, [.ref hw])), (hw, .inl (cI, 16, .inl (f_IM_load so w wl g))), (sh, .inr (1, [.ref sw, .int wl])), (sw, .inl (cI, 70, .inl g))]) (va_A [(h, .inr (3, [.ref hw])), (hw, .inl (cI, 16, .inl w)), (sh, .inr (1, [.ref sw, .int wl])), (sw, .inl (cI, 70, .inl g))] sz)) 0 0 (va_A [(h, .inr (3, [.ref hw])), (hw, .inl (cI, 16, .inl w)), (sh, .inr (1, [.ref sw, .int wl])), (sw, .inl (cI, 70, .inl g))] sz) := by
  refine Met.ofW (cc := prog_4_method_4_code) (maxL := 4) (ret := none) (by decide) rfl ?_
  intro p e s m args below meth c s₁ B hml hv
  obtain ⟨rfl, hsz, hP, hK, hD0, hE⟩ := hv
  have hx := B.exec
  have hb := B.bytes
  have hr := B.returns
  have hts : ∀ w ∈ bc_G, w.before ([.ref h, .ref sh, .int so] : List Value).toArray s = true := fun w h => atoms_spec (ws := ws_IM_load) B.pre w (List.mem_cons_of_mem _ h)
  have hown : s.vm.findClass "BootChain$Image" = some m.cls := findClass_of_methodNamed B.named
  have hlocks := B.notSynchronized
  subst hsz
  have hD := hD0.self (sz := s.heap.size)
  generalize hAe : va_A [(h, .inr (3, [.ref hw])), (hw, .inl (cI, 16, .inl w)), (sh, .inr (1, [.ref sw, .int wl])), (sw, .inl (cI, 70, .inl g))] s.heap.size = A at hD hE ⊢
  have hA : ∀ q : Nat, s.heap.size ≤ q → A q := fun q h => by rw [← hAe]; exact Or.inr h
  have hS : va_S A s.heap s.heap [] := va_S.rf
  have lp_2 : ∀ (n : Nat) (x3 : Int32) (y1 : Nat → Int32) (H : Heap) (locs : List Loc) (ls : Array Slot), 0 ≤ x3 ∧ x3 ≤ 16 → ((16 : Int32).toInt - x3.toInt).toNat < n → lv_has ls 4 [(0, .ref h), (1, .ref sh), (2, .int so), (3, .int x3)] → va_P (dC, dI) classes [(h, .inr (3, [.ref hw])), (hw, .inl (cI, 16, .inl y1)), (sh, .inr (1, [.ref sw, .int wl])), (sw, .inl (cI, 70, .inl g))] H → va_D A [(h, .inr (3, [.ref hw])), (hw, .inl (cI, 16, .inl y1)), (sh, .inr (1, [.ref sw, .int wl])), (sw, .inl (cI, 70, .inl g))] → va_S A s.heap H locs → W p l e (headSpec ws_IM_load ({ frames := 2, cells := 0, slots := 0, locals := 43 } : Room)).room s m ([.ref h, .ref sh, .int so] : List Value).toArray below meth c H locs 0 0 (MQ below (va_Qv (fun (_ : Unit) => True) (fun _ => bc_post (dC, dI) cI cJ A [(h, .inr (3, [.ref hw])), (hw, .inl (cI, 16, .inl (f_IM_load_2 so w wl g n x3 y1))), (sh, .inr (1, [.ref sw, .int wl])), (sw, .inl (cI, 70, .inl g))]) A) ([.ref h, .ref sh, .int so] : List Value).toArray s 0 0 A) (F0 m 2 ls []) := by
    intro n
    induction n with
    | zero => intro x3 y1 H locs ls hI hm; exact absurd hm (Nat.not_lt_zero _)
    | succ n ih =>
      intro x3 y1 H locs ls hI hm hl hP hD hS
      refine lv_iload_n hx hb d_IM_load_2 rfl (lv_at hl 3 rfl) ?_
      refine lv_bipush (v := 16) hx hb d_IM_load_3 (by decide) ?_
      refine lv_icmp_ge (tgt := 26) hx hb d_IM_load_5 (by decide) (fun h2 => ?_) (fun h2 => ?_)
      · have e0 : (f_IM_load_2 so w wl g (n + 1) x3 y1) = y1 := by rw [f_IM_load_2, if_pos h2]
        rw [e0]
        exact W.vret hx hb hr (fun t ht hW => ⟨⟨(), rfl, trivial, by rw [ht]; exact hP, va_K.moved hW.alike hK, hD⟩, hS.F ht⟩) hS.2.2 d_IM_load_26
      · refine lv_aload_n hx hb d_IM_load_8 rfl (lv_at hl 0 rfl) ?_
        refine va_get (D := (dC, dI)) (ci := 3) (v := .ref hw) (C := R_IM) (T := F_IM) (N := 1) hx hb hts in_IM hown hK hP 0 rfl rfl 0 (by decide) (hts _ gw_48) (fun _ h9 => h9) rfl d_IM_load_9 ?_
        refine lv_iload_n hx hb d_IM_load_12 rfl (lv_at hl 3 rfl) ?_
        refine lv_aload_n hx hb d_IM_load_13 rfl (lv_at hl 1 rfl) ?_
        refine lv_iload_n hx hb d_IM_load_14 rfl (lv_at hl 2 rfl) ?_
        refine lv_iload_n hx hb d_IM_load_15 rfl (lv_at hl 3 rfl) ?_
        have hPc := hP.sub (ws' := [(sh, .inr (1, [.ref sw, .int wl])), (sw, .inl (cI, 70, .inl g))]) [2, 3] rfl
        have hDc := hD.sub (ws' := [(sh, .inr (1, [.ref sw, .int wl])), (sw, .inl (cI, 70, .inl g))]) [2, 3] (by decide) rfl
        have hFc := va_free (wc := [(sh, .inr (1, [.ref sw, .int wl])), (sw, .inl (cI, 70, .inl g))]) hD hS hA [2, 3] rfl
        refine va_calli (va_runV (As := [.int so, .int x3]) (rest := [.int x3, .ref hw]) ⟨hx, hb, hml, hown, hts⟩ (c_FL_read l dC dI cI cJ sh sw _ so x3 wl g (ix_slot hso hI.1 (by assumption))) ⟨callB_of 2 hts (bc_good gw_99) rfl rfl rfl (hts _ gw_2) (hts _ gw_317) (by decide +kernel) ⟨Nat.le_of_ble_eq_true rfl, Nat.le_of_ble_eq_true rfl⟩, (hts _ gw_97), (hts _ gw_98)⟩ ⟨bc_blind, va_recv (q0 := 2) hK hP (q := (R_FL, F_FL, 2)) rfl rfl, fun U hU hW => ⟨rfl, bc_give hPc hDc hK hE hS hFc U hU hW⟩⟩ rfl rfl hl.1 rfl (lv_room (Nat.le_of_ble_eq_true rfl)) d_IM_load_16 ⟨Nat.le_of_ble_eq_true rfl, Nat.le_of_ble_eq_true rfl⟩) hS (fun q _ h => hFc q h) hFc (fun r u t H9 locs ht hvm hp hB hz1 hk1 hS => ?_)
        subst hp
        obtain ⟨hP, hD⟩ := va_join (wr := [(h, .inr (3, [.ref hw])), (hw, .inl (cI, 16, .inl y1))]) (w1 := [(sh, .inr (1, [.ref sw, .int wl])), (sw, .inl (cI, 70, .inl g))]) hP hD [2, 3] [0, 1] rfl rfl (by decide) (by decide) hk1 hFc (ht ▸ hB.1) hB.2.2
        have hP := hP.sub (ws' := [(h, .inr (3, [.ref hw])), (hw, .inl (cI, 16, .inl y1)), (sh, .inr (1, [.ref sw, .int wl])), (sw, .inl (cI, 70, .inl g))]) [0, 1, 2, 3] rfl
        have hD := hD.sub (ws' := [(h, .inr (3, [.ref hw])), (hw, .inl (cI, 16, .inl y1)), (sh, .inr (1, [.ref sw, .int wl])), (sw, .inl (cI, 70, .inl g))]) [0, 1, 2, 3] (by decide) rfl
        generalize H9 = H at hP hS ⊢
        refine va_iast hx hb hK hP hD hS 1 0 rfl rfl (by exact ix_lt 16 hI.1 (by assumption) rfl (by decide)) d_IM_load_19 (fun H locs hP hD hS => ?_)
        have hP : va_P (dC, dI) classes [(h, .inr (3, [.ref hw])), (hw, .inl (cI, 16, .inl (upd y1 (x3).toNatClampNeg (f_FL_read so x3 wl g)))), (sh, .inr (1, [.ref sw, .int wl])), (sw, .inl (cI, 70, .inl g))] H := hP
        have hD : va_D A [(h, .inr (3, [.ref hw])), (hw, .inl (cI, 16, .inl (upd y1 (x3).toNatClampNeg (f_FL_read so x3 wl g)))), (sh, .inr (1, [.ref sw, .int wl])), (sw, .inl (cI, 70, .inl g))] := hD
        refine lv_iinc (k := 3) (v := (x3 + (1 : Int32))) (lv' := [(3, .int (x3 + (1 : Int32))), (0, .ref h), (1, .ref sh), (2, .int so)]) hx hb d_IM_load_20 hl rfl rfl (by decide) rfl (fun ls hl => ?_)
        refine lv_goto (tgt := 2) hx hb d_IM_load_23 (by decide) ?_
        have e0 : (f_IM_load_2 so w wl g (n + 1) x3 y1) = f_IM_load_2 so w wl g n (x3 + (1 : Int32)) (upd y1 (x3).toNatClampNeg (f_FL_read so x3 wl g)) := by rw [f_IM_load_2, if_neg h2]
        rw [e0]
        exact ih (x3 + (1 : Int32)) (upd y1 (x3).toNatClampNeg (f_FL_read so x3 wl g)) _ _ ls (lp_up hI.1 (by assumption)).1 (lp_ms hI.1 (by assumption) hm) (lv_sub hl [1, 2, 3, 0] rfl) hP hD hS
  have hl := lv_entry ([.ref h, .ref sh, .int so]) (n := 4) (Nat.le_of_ble_eq_true rfl)
  rw [lg_entry_eq]
  generalize (lg_sl ([.ref h, .ref sh, .int so]) ++ List.replicate (4 - (lg_sl ([.ref h, .ref sh, .int so])).length) Slot.unset).toArray = ls at hl ⊢
  have hl : lv_has ls 4 [(0, .ref h), (1, .ref sh), (2, .int so)] := hl
  refine lv_iconst (v := 0) hx hb d_IM_load_0 (by decide) ?_
  refine lv_istore_n (lv' := [(3, .int (0 : Int32)), (0, .ref h), (1, .ref sh), (2, .int so)]) hx hb d_IM_load_1 rfl hl (by decide) rfl (fun ls hl => ?_)
  have e0 : (f_IM_load so w wl g) = f_IM_load_2 so w wl g 17 (0 : Int32) w := by rw [f_IM_load]
  rw [e0]
  exact lp_2 17 (0 : Int32) w _ _ ls ⟨by decide, by decide⟩ (by decide) (lv_sub hl [1, 2, 3, 0] rfl) hP hD hS
-- IM_writeTo
theorem d_IM_writeTo_0 : decode prog_4_method_5_code 0 = .ok (.iconst 0, 1) := by decide +kernel
theorem d_IM_writeTo_1 : decode prog_4_method_5_code 1 = .ok (.istore_n 3, 1) := by decide +kernel
theorem d_IM_writeTo_2 : decode prog_4_method_5_code 2 = .ok (.iload_n 3, 1) := by decide +kernel
theorem d_IM_writeTo_3 : decode prog_4_method_5_code 3 = .ok (.bipush 16, 2) := by decide +kernel
theorem d_IM_writeTo_5 : decode prog_4_method_5_code 5 = .ok (.if_icmp .ge 26, 3) := by decide +kernel
theorem d_IM_writeTo_8 : decode prog_4_method_5_code 8 = .ok (.aload_n 1, 1) := by decide +kernel
theorem d_IM_writeTo_9 : decode prog_4_method_5_code 9 = .ok (.iload_n 2, 1) := by decide +kernel
theorem d_IM_writeTo_10 : decode prog_4_method_5_code 10 = .ok (.iload_n 3, 1) := by decide +kernel
theorem d_IM_writeTo_11 : decode prog_4_method_5_code 11 = .ok (.aload_n 0, 1) := by decide +kernel
theorem d_IM_writeTo_12 : decode prog_4_method_5_code 12 = .ok (.getfield 9, 3) := by decide +kernel
theorem d_IM_writeTo_15 : decode prog_4_method_5_code 15 = .ok (.iload_n 3, 1) := by decide +kernel
theorem d_IM_writeTo_16 : decode prog_4_method_5_code 16 = .ok (.iaload, 1) := by decide +kernel
theorem d_IM_writeTo_17 : decode prog_4_method_5_code 17 = .ok (.invokevirtual 29, 3) := by decide +kernel
theorem d_IM_writeTo_20 : decode prog_4_method_5_code 20 = .ok (.ifCond .ne 5, 3) := by decide +kernel
theorem d_IM_writeTo_23 : decode prog_4_method_5_code 23 = .ok (.iconst 0, 1) := by decide +kernel
theorem d_IM_writeTo_24 : decode prog_4_method_5_code 24 = .ok (.ireturn, 1) := by decide +kernel
theorem d_IM_writeTo_25 : decode prog_4_method_5_code 25 = .ok (.iinc 3 1, 3) := by decide +kernel
theorem d_IM_writeTo_28 : decode prog_4_method_5_code 28 = .ok (.goto (-26), 3) := by decide +kernel
theorem d_IM_writeTo_31 : decode prog_4_method_5_code 31 = .ok (.iconst 1, 1) := by decide +kernel
theorem d_IM_writeTo_32 : decode prog_4_method_5_code 32 = .ok (.ireturn, 1) := by decide +kernel
def y_IM_writeTo : MethodName := ⟨"BootChain$Image", "writeTo", "(LBootChain$Flash;I)Z"⟩
def ws_IM_writeTo : List Cond := .code y_IM_writeTo prog_4_method_5_code 4 (some .boolean) :: bc_G
def f_IM_writeTo_c1 (rec : Int32 → Int32 → (Nat → Int32) → Int32 × Int32 × (Nat → Int32)) (so : Int32) (w : Nat → Int32) (wl : Int32) (g : Nat → Int32) (x3 : Int32) (y2_1 : Int32) (y3 : Nat → Int32) (u1 : Int32 × Int32 × (Nat → Int32)) : Int32 × Int32 × (Nat → Int32) := if (u1.1) = 0 then ((0 : Int32), (u1.2.1), (u1.2.2)) else rec (x3 + (1 : Int32)) (u1.2.1) (u1.2.2)
def f_IM_writeTo_2 (so : Int32) (w : Nat → Int32) (wl : Int32) (g : Nat → Int32) : Nat → Int32 → Int32 → (Nat → Int32) → Int32 × Int32 × (Nat → Int32)
  | 0, x3, y2_1, y3 => (0, y2_1, y3)
  | n + 1, x3, y2_1, y3 => if (16 : Int32) ≤ x3 then ((1 : Int32), y2_1, y3) else f_IM_writeTo_c1 (f_IM_writeTo_2 so w wl g n) so w wl g x3 y2_1 y3 (f_FL_write so x3 (w (x3).toNatClampNeg) y2_1 y3)
def f_IM_writeTo (so : Int32) (w : Nat → Int32) (wl : Int32) (g : Nat → Int32) : Int32 × Int32 × (Nat → Int32) := f_IM_writeTo_2 so w wl g 17 (0 : Int32) wl g
set_option maxHeartbeats 4000000 in
set_option maxRecDepth 100000 in
theorem c_IM_writeTo (l : Launch) (dC : Nat → ClassId) (dI : Nat → Nat → Nat) (cI cJ : ClassId) (h sh hw sw : Nat) (sz : Nat) (so : Int32) (w : Nat → Int32) (wl : Int32) (g : Nat → Int32) (hso : 0 ≤ so ∧ so < 4) : Met l y_IM_writeTo ws_IM_writeTo ({ frames := 2, cells := 0, slots := 0, locals := 44 } : Room) (va_Pc [.ref h, .ref sh, .int so] (bc_pre (dC, dI) cI cJ [(h, .inr (3, [.ref hw])), (hw, .inl (cI, 16, .inl w)), (sh, .inr (1, [.ref sw, .int wl])), (sw, .inl (cI, 70, .inl g))] sz)) (va_Qi (fun (r : Int32) (_ : Unit) => r = (f_IM_writeTo so w wl g).1) (fun _ => bc_post (dC, dI) cI cJ (va_A [(h, .inr (3, [.ref hw])), (hw, .inl (cI, 16, .inl w)), (sh, .inr (1, [.ref sw, .int wl])), (sw, .inl (cI, 70, .inl g))] sz) [(h, .inr (3, [.ref hw])), (hw, .inl (cI, 16, .inl w)), (sh, .inr (1, [.ref sw, .int (f_IM_writeTo so w wl g).2.1])), (sw, .inl (cI, 70, .inl (f_IM_writeTo so w wl g).2.2))]) (va_A [(h, .inr (3, [.ref hw])), (hw, .inl (cI, 16, .inl w)), (sh, .inr (1, [.ref sw, .int wl])), (sw, .inl (cI, 70, .inl g))] sz)) 0 0 (va_A [(h, .inr (3, [.ref hw])), (hw, .inl (cI, 16, .inl w)), (sh, .inr (1, [.ref sw, .int wl])), (sw, .inl (cI, 70, .inl g))] sz) := by
  refine Met.ofW (cc := prog_4_method_5_code) (maxL := 4) (ret := (some .boolean)) (by decide) rfl ?_
  intro p e s m args below meth c s₁ B hml hv
  obtain ⟨rfl, hsz, hP, hK, hD0, hE⟩ := hv
  have hx := B.exec
  have hb := B.bytes
  have hr := B.returns
  have hts : ∀ w ∈ bc_G, w.before ([.ref h, .ref sh, .int so] : List Value).toArray s = true := fun w h => atoms_spec (ws := ws_IM_writeTo) B.pre w (List.mem_cons_of_mem _ h)
  have hown : s.vm.findClass "BootChain$Image" = some m.cls := findClass_of_methodNamed B.named
  have hlocks := B.notSynchronized
  subst hsz
  have hD := hD0.self (sz := s.heap.size)
  generalize hAe : va_A [(h, .inr (3, [.ref hw])), (hw, .inl (cI, 16, .inl w)), (sh, .inr (1, [.ref sw, .int wl])), (sw, .inl (cI, 70, .inl g))] s.heap.size = A at hD hE ⊢
  have hA : ∀ q : Nat, s.heap.size ≤ q → A q := fun q h => by rw [← hAe]; exact Or.inr h
  have hS : va_S A s.heap s.heap [] := va_S.rf
  have lp_2 : ∀ (n : Nat) (x3 : Int32) (y2_1 : Int32) (y3 : Nat → Int32) (H : Heap) (locs : List Loc) (ls : Array Slot), 0 ≤ x3 ∧ x3 ≤ 16 → ((16 : Int32).toInt - x3.toInt).toNat < n → lv_has ls 4 [(0, .ref h), (1, .ref sh), (2, .int so), (3, .int x3)] → va_P (dC, dI) classes [(h, .inr (3, [.ref hw])), (hw, .inl (cI, 16, .inl w)), (sh, .inr (1, [.ref sw, .int y2_1])), (sw, .inl (cI, 70, .inl y3))] H → va_D A [(h, .inr (3, [.ref hw])), (hw, .inl (cI, 16, .inl w)), (sh, .inr (1, [.ref sw, .int y2_1])), (sw, .inl (cI, 70, .inl y3))] → va_S A s.heap H locs → W p l e (headSpec ws_IM_writeTo ({ frames := 2, cells := 0, slots := 0, locals := 44 } : Room)).room s m ([.ref h, .ref sh, .int so] : List Value).toArray below meth c H locs 0 0 (MQ below (va_Qi (fun (r : Int32) (_ : Unit) => r = (f_IM_writeTo_2 so w wl g n x3 y2_1 y3).1) (fun _ => bc_post (dC, dI) cI cJ A [(h, .inr (3, [.ref hw])), (hw, .inl (cI, 16, .inl w)), (sh, .inr (1, [.ref sw, .int (f_IM_writeTo_2 so w wl g n x3 y2_1 y3).2.1])), (sw, .inl (cI, 70, .inl (f_IM_writeTo_2 so w wl g n x3 y2_1 y3).2.2))]) A) ([.ref h, .ref sh, .int so] : List Value).toArray s 0 0 A) (F0 m 2 ls []) := by
    intro n
    induction n with
    | zero => intro x3 y2_1 y3 H locs ls hI hm; exact absurd hm (Nat.not_lt_zero _)
    | succ n ih =>
      intro x3 y2_1 y3 H locs ls hI hm hl hP hD hS
      refine lv_iload_n hx hb d_IM_writeTo_2 rfl (lv_at hl 3 rfl) ?_
      refine lv_bipush (v := 16) hx hb d_IM_writeTo_3 (by decide) ?_
      refine lv_icmp_ge (tgt := 31) hx hb d_IM_writeTo_5 (by decide) (fun h3 => ?_) (fun h3 => ?_)
      · refine lv_iconst (v := 1) hx hb d_IM_writeTo_31 (by decide) ?_
        have e0 : (f_IM_writeTo_2 so w wl g (n + 1) x3 y2_1 y3) = ((1 : Int32), y2_1, y3) := by rw [f_IM_writeTo_2, if_pos h3]
        rw [e0]
        exact W.zret (v := (1 : Int32)) (ty := .boolean) hx hb hr (rfl) (fun t ht hW => ⟨⟨(1 : Int32), (), rfl, rfl, by rw [ht]; exact hP, va_K.moved hW.alike hK, hD⟩, hS.F ht⟩) hS.2.2 d_IM_writeTo_32
      · refine lv_aload_n hx hb d_IM_writeTo_8 rfl (lv_at hl 1 rfl) ?_
        refine lv_iload_n hx hb d_IM_writeTo_9 rfl (lv_at hl 2 rfl) ?_
        refine lv_iload_n hx hb d_IM_writeTo_10 rfl (lv_at hl 3 rfl) ?_
        refine lv_aload_n hx hb d_IM_writeTo_11 rfl (lv_at hl 0 rfl) ?_
        refine va_get (D := (dC, dI)) (ci := 3) (v := .ref hw) (C := R_IM) (T := F_IM) (N := 1) hx hb hts in_IM hown hK hP 0 rfl rfl 0 (by decide) (hts _ gw_48) (fun _ h9 => h9) rfl d_IM_writeTo_12 ?_
        refine lv_iload_n hx hb d_IM_writeTo_15 rfl (lv_at hl 3 rfl) ?_
        refine va_iald hx hb hK hP 1 0 rfl rfl (by exact ix_lt 16 hI.1 (by assumption) rfl (by decide)) d_IM_writeTo_16 ?_
        have hPc := hP.sub (ws' := [(sh, .inr (1, [.ref sw, .int y2_1])), (sw, .inl (cI, 70, .inl y3))]) [2, 3] rfl
        have hDc := hD.sub (ws' := [(sh, .inr (1, [.ref sw, .int y2_1])), (sw, .inl (cI, 70, .inl y3))]) [2, 3] (by decide) rfl
        have hFc := va_free (wc := [(sh, .inr (1, [.ref sw, .int y2_1])), (sw, .inl (cI, 70, .inl y3))]) hD hS hA [2, 3] rfl
        refine va_calli (va_runV (As := [.int so, .int x3, .int (w (x3).toNatClampNeg)]) (rest := []) ⟨hx, hb, hml, hown, hts⟩ (c_FL_write l dC dI cI cJ sh sw _ so x3 (w (x3).toNatClampNeg) y2_1 y3 (ix_slot hso hI.1 (by assumption))) ⟨callB_of 3 hts (bc_good gw_279) rfl rfl rfl (hts _ gw_2) (hts _ gw_276) (by decide +kernel) ⟨Nat.le_of_ble_eq_true rfl, Nat.le_of_ble_eq_true rfl⟩, (hts _ gw_277), (hts _ gw_278)⟩ ⟨bc_blind, va_recv (q0 := 2) hK hP (q := (R_FL, F_FL, 2)) rfl rfl, fun U hU hW => ⟨rfl, bc_give hPc hDc hK hE hS hFc U hU hW⟩⟩ rfl rfl hl.1 rfl (lv_room (Nat.le_of_ble_eq_true rfl)) d_IM_writeTo_17 ⟨Nat.le_of_ble_eq_true rfl, Nat.le_of_ble_eq_true rfl⟩) hS (fun q _ h => hFc q h) hFc (fun r u t H9 locs ht hvm hp hB hz1 hk1 hS => ?_)
        subst hp
        obtain ⟨hP, hD⟩ := va_join (wr := [(h, .inr (3, [.ref hw])), (hw, .inl (cI, 16, .inl w))]) (w1 := [(sh, .inr (1, [.ref sw, .int ((f_FL_write so x3 (w (x3).toNatClampNeg) y2_1 y3).2.1)])), (sw, .inl (cI, 70, .inl ((f_FL_write so x3 (w (x3).toNatClampNeg) y2_1 y3).2.2)))]) hP hD [2, 3] [0, 1] rfl rfl (by decide) (by decide) hk1 hFc (ht ▸ hB.1) hB.2.2
        have hP := hP.sub (ws' := [(h, .inr (3, [.ref hw])), (hw, .inl (cI, 16, .inl w)), (sh, .inr (1, [.ref sw, .int ((f_FL_write so x3 (w (x3).toNatClampNeg) y2_1 y3).2.1)])), (sw, .inl (cI, 70, .inl ((f_FL_write so x3 (w (x3).toNatClampNeg) y2_1 y3).2.2)))]) [0, 1, 2, 3] rfl
        have hD := hD.sub (ws' := [(h, .inr (3, [.ref hw])), (hw, .inl (cI, 16, .inl w)), (sh, .inr (1, [.ref sw, .int ((f_FL_write so x3 (w (x3).toNatClampNeg) y2_1 y3).2.1)])), (sw, .inl (cI, 70, .inl ((f_FL_write so x3 (w (x3).toNatClampNeg) y2_1 y3).2.2)))]) [0, 1, 2, 3] (by decide) rfl
        generalize H9 = H at hP hS ⊢
        have e0 : (f_IM_writeTo_2 so w wl g (n + 1) x3 y2_1 y3) = f_IM_writeTo_c1 (f_IM_writeTo_2 so w wl g n) so w wl g x3 y2_1 y3 (f_FL_write so x3 (w (x3).toNatClampNeg) y2_1 y3) := by rw [f_IM_writeTo_2, if_neg h3]
        rw [e0]
        generalize hu1 : (f_FL_write so x3 (w (x3).toNatClampNeg) y2_1 y3) = u1 at hP hD ⊢
        have hP : va_P (dC, dI) classes [(h, .inr (3, [.ref hw])), (hw, .inl (cI, 16, .inl w)), (sh, .inr (1, [.ref sw, .int (u1.2.1)])), (sw, .inl (cI, 70, .inl (u1.2.2)))] H := hP
        have hD : va_D A [(h, .inr (3, [.ref hw])), (hw, .inl (cI, 16, .inl w)), (sh, .inr (1, [.ref sw, .int (u1.2.1)])), (sw, .inl (cI, 70, .inl (u1.2.2)))] := hD
        refine lv_if_ne (tgt := 25) hx hb d_IM_writeTo_20 (by decide) (fun h4 => ?_) (fun h4 => ?_)
        · refine lv_iinc (k := 3) (v := (x3 + (1 : Int32))) (lv' := [(3, .int (x3 + (1 : Int32))), (0, .ref h), (1, .ref sh), (2, .int so)]) hx hb d_IM_writeTo_25 hl rfl rfl (by decide) rfl (fun ls hl => ?_)
          refine lv_goto (tgt := 2) hx hb d_IM_writeTo_28 (by decide) ?_
          have e0 : (f_IM_writeTo_c1 (f_IM_writeTo_2 so w wl g n) so w wl g x3 y2_1 y3 u1) = f_IM_writeTo_2 so w wl g n (x3 + (1 : Int32)) (u1.2.1) (u1.2.2) := by rw [f_IM_writeTo_c1, if_neg h4]
          rw [e0]
          exact ih (x3 + (1 : Int32)) (u1.2.1) (u1.2.2) _ _ ls (lp_up hI.1 (by assumption)).1 (lp_ms hI.1 (by assumption) hm) (lv_sub hl [1, 2, 3, 0] rfl) hP hD hS
        · refine lv_iconst (v := 0) hx hb d_IM_writeTo_23 (by decide) ?_
          have e0 : (f_IM_writeTo_c1 (f_IM_writeTo_2 so w wl g n) so w wl g x3 y2_1 y3 u1) = ((0 : Int32), (u1.2.1), (u1.2.2)) := by rw [f_IM_writeTo_c1, if_pos h4]
          rw [e0]
          exact W.zret (v := (0 : Int32)) (ty := .boolean) hx hb hr (rfl) (fun t ht hW => ⟨⟨(0 : Int32), (), rfl, rfl, by rw [ht]; exact hP, va_K.moved hW.alike hK, hD⟩, hS.F ht⟩) hS.2.2 d_IM_writeTo_24
  have hl := lv_entry ([.ref h, .ref sh, .int so]) (n := 4) (Nat.le_of_ble_eq_true rfl)
  rw [lg_entry_eq]
  generalize (lg_sl ([.ref h, .ref sh, .int so]) ++ List.replicate (4 - (lg_sl ([.ref h, .ref sh, .int so])).length) Slot.unset).toArray = ls at hl ⊢
  have hl : lv_has ls 4 [(0, .ref h), (1, .ref sh), (2, .int so)] := hl
  refine lv_iconst (v := 0) hx hb d_IM_writeTo_0 (by decide) ?_
  refine lv_istore_n (lv' := [(3, .int (0 : Int32)), (0, .ref h), (1, .ref sh), (2, .int so)]) hx hb d_IM_writeTo_1 rfl hl (by decide) rfl (fun ls hl => ?_)
  have e0 : (f_IM_writeTo so w wl g) = f_IM_writeTo_2 so w wl g 17 (0 : Int32) wl g := by rw [f_IM_writeTo]
  rw [e0]
  exact lp_2 17 (0 : Int32) wl g _ _ ls ⟨by decide, by decide⟩ (by decide) (lv_sub hl [1, 2, 3, 0] rfl) hP hD hS
-- IM_hasZerosBehind
theorem d_IM_hasZerosBehind_0 : decode prog_4_method_8_code 0 = .ok (.iload_n 1, 1) := by decide +kernel
theorem d_IM_hasZerosBehind_1 : decode prog_4_method_8_code 1 = .ok (.istore_n 2, 1) := by decide +kernel
theorem d_IM_hasZerosBehind_2 : decode prog_4_method_8_code 2 = .ok (.iload_n 2, 1) := by decide +kernel
theorem d_IM_hasZerosBehind_3 : decode prog_4_method_8_code 3 = .ok (.bipush 24, 2) := by decide +kernel
theorem d_IM_hasZerosBehind_5 : decode prog_4_method_8_code 5 = .ok (.if_icmp .ge 38, 3) := by decide +kernel
theorem d_IM_hasZerosBehind_8 : decode prog_4_method_8_code 8 = .ok (.aload_n 0, 1) := by decide +kernel
theorem d_IM_hasZerosBehind_9 : decode prog_4_method_8_code 9 = .ok (.getfield 9, 3) := by decide +kernel
theorem d_IM_hasZerosBehind_12 : decode prog_4_method_8_code 12 = .ok (.iconst 1, 1) := by decide +kernel
theorem d_IM_hasZerosBehind_13 : decode prog_4_method_8_code 13 = .ok (.iload_n 2, 1) := by decide +kernel
theorem d_IM_hasZerosBehind_14 : decode prog_4_method_8_code 14 = .ok (.iconst 4, 1) := by decide +kernel
theorem d_IM_hasZerosBehind_15 : decode prog_4_method_8_code 15 = .ok (.idiv, 1) := by decide +kernel
theorem d_IM_hasZerosBehind_16 : decode prog_4_method_8_code 16 = .ok (.iadd, 1) := by decide +kernel
theorem d_IM_hasZerosBehind_17 : decode prog_4_method_8_code 17 = .ok (.iaload, 1) := by decide +kernel
theorem d_IM_hasZerosBehind_18 : decode prog_4_method_8_code 18 = .ok (.bipush 24, 2) := by decide +kernel
theorem d_IM_hasZerosBehind_20 : decode prog_4_method_8_code 20 = .ok (.bipush 8, 2) := by decide +kernel
theorem d_IM_hasZerosBehind_22 : decode prog_4_method_8_code 22 = .ok (.iload_n 2, 1) := by decide +kernel
theorem d_IM_hasZerosBehind_23 : decode prog_4_method_8_code 23 = .ok (.iconst 4, 1) := by decide +kernel
theorem d_IM_hasZerosBehind_24 : decode prog_4_method_8_code 24 = .ok (.irem, 1) := by decide +kernel
theorem d_IM_hasZerosBehind_25 : decode prog_4_method_8_code 25 = .ok (.imul, 1) := by decide +kernel
theorem d_IM_hasZerosBehind_26 : decode prog_4_method_8_code 26 = .ok (.isub, 1) := by decide +kernel
theorem d_IM_hasZerosBehind_27 : decode prog_4_method_8_code 27 = .ok (.iushr, 1) := by decide +kernel
theorem d_IM_hasZerosBehind_28 : decode prog_4_method_8_code 28 = .ok (.sipush 255, 3) := by decide +kernel
theorem d_IM_hasZerosBehind_31 : decode prog_4_method_8_code 31 = .ok (.iand, 1) := by decide +kernel
theorem d_IM_hasZerosBehind_32 : decode prog_4_method_8_code 32 = .ok (.ifCond .eq 5, 3) := by decide +kernel
theorem d_IM_hasZerosBehind_35 : decode prog_4_method_8_code 35 = .ok (.iconst 0, 1) := by decide +kernel
theorem d_IM_hasZerosBehind_36 : decode prog_4_method_8_code 36 = .ok (.ireturn, 1) := by decide +kernel
theorem d_IM_hasZerosBehind_37 : decode prog_4_method_8_code 37 = .ok (.iinc 2 1, 3) := by decide +kernel
theorem d_IM_hasZerosBehind_40 : decode prog_4_method_8_code 40 = .ok (.goto (-38), 3) := by decide +kernel
theorem d_IM_hasZerosBehind_43 : decode prog_4_method_8_code 43 = .ok (.iconst 1, 1) := by decide +kernel
theorem d_IM_hasZerosBehind_44 : decode prog_4_method_8_code 44 = .ok (.ireturn, 1) := by decide +kernel
def y_IM_hasZerosBehind : MethodName := ⟨"BootChain$Image", "hasZerosBehind", "(I)Z"⟩
def ws_IM_hasZerosBehind : List Cond := .code y_IM_hasZerosBehind prog_4_method_8_code 3 (some .boolean) :: bc_G
def f_IM_hasZerosBehind_2 (le : Int32) (w : Nat → Int32) : Nat → Int32 → Int32
  | 0, x2 => 0
  | n + 1, x2 => if (24 : Int32) ≤ x2 then (1 : Int32) else if ((ju (w (((1 : Int32) + (x2 / (4 : Int32)))).toNatClampNeg) ((24 : Int32) - ((8 : Int32) * (x2 - x2 / (4 : Int32) * (4 : Int32))))) &&& (255 : Int32)) = 0 then f_IM_hasZerosBehind_2 le w n (x2 + (1 : Int32)) else (0 : Int32)
def f_IM_hasZerosBehind (le : Int32) (w : Nat → Int32) : Int32 := f_IM_hasZerosBehind_2 le w 25 le
set_option maxHeartbeats 4000000 in
set_option maxRecDepth 100000 in
theorem c_IM_hasZerosBehind (l : Launch) (dC : Nat → ClassId) (dI : Nat → Nat → Nat) (cI cJ : ClassId) (h hw : Nat) (sz : Nat) (le : Int32) (w : Nat → Int32) (hle : 0 ≤ le ∧ le ≤ 24) : Met l y_IM_hasZerosBehind ws_IM_hasZerosBehind ({ frames := 0, cells := 0, slots := 0, locals := 0 } : Room) (va_Pc [.ref h, .int le] (bc_pre (dC, dI) cI cJ [(h, .inr (3, [.ref hw])), (hw, .inl (cI, 16, .inl w))] sz)) (va_Qi (fun (r : Int32) (_ : Unit) => r = (f_IM_hasZerosBehind le w)) (fun _ => bc_post (dC, dI) cI cJ (va_A [(h, .inr (3, [.ref hw])), (hw, .inl (cI, 16, .inl w))] sz) [(h, .inr (3, [.ref hw])), (hw, .inl (cI, 16, .inl w))]) (va_A [(h, .inr (3, [.ref hw])), (hw, .inl (cI, 16, .inl w))] sz)) 0 0 (va_A [(h, .inr (3, [.ref hw])), (hw, .inl (cI, 16, .inl w))] sz) := by
  refine Met.ofW (cc := prog_4_method_8_code) (maxL := 3) (ret := (some .boolean)) (by decide) rfl ?_
  intro p e s m args below meth c s₁ B hml hv
  obtain ⟨rfl, hsz, hP, hK, hD0, hE⟩ := hv
  have hx := B.exec
  have hb := B.bytes
  have hr := B.returns
  have hts : ∀ w ∈ bc_G, w.before ([.ref h, .int le] : List Value).toArray s = true := fun w h => atoms_spec (ws := ws_IM_hasZerosBehind) B.pre w (List.mem_cons_of_mem _ h)
  have hown : s.vm.findClass "BootChain$Image" = some m.cls := findClass_of_methodNamed B.named
  have hlocks := B.notSynchronized
  subst hsz
  have hD := hD0.self (sz := s.heap.size)
  generalize hAe : va_A [(h, .inr (3, [.ref hw])), (hw, .inl (cI, 16, .inl w))] s.heap.size = A at hD hE ⊢
  have hA : ∀ q : Nat, s.heap.size ≤ q → A q := fun q h => by rw [← hAe]; exact Or.inr h
  have hS : va_S A s.heap s.heap [] := va_S.rf
  have lp_2 : ∀ (n : Nat) (x2 : Int32) (H : Heap) (locs : List Loc) (ls : Array Slot), 0 ≤ x2 ∧ x2 ≤ 24 → ((24 : Int32).toInt - x2.toInt).toNat < n → lv_has ls 3 [(0, .ref h), (2, .int x2)] → va_P (dC, dI) classes [(h, .inr (3, [.ref hw])), (hw, .inl (cI, 16, .inl w))] H → va_D A [(h, .inr (3, [.ref hw])), (hw, .inl (cI, 16, .inl w))] → va_S A s.heap H locs → W p l e (headSpec ws_IM_hasZerosBehind ({ frames := 0, cells := 0, slots := 0, locals := 0 } : Room)).room s m ([.ref h, .int le] : List Value).toArray below meth c H locs 0 0 (MQ below (va_Qi (fun (r : Int32) (_ : Unit) => r = (f_IM_hasZerosBehind_2 le w n x2)) (fun _ => bc_post (dC, dI) cI cJ A [(h, .inr (3, [.ref hw])), (hw, .inl (cI, 16, .inl w))]) A) ([.ref h, .int le] : List Value).toArray s 0 0 A) (F0 m 2 ls []) := by
    intro n
    induction n with
    | zero => intro x2 H locs ls hI hm; exact absurd hm (Nat.not_lt_zero _)
    | succ n ih =>
      intro x2 H locs ls hI hm hl hP hD hS
      refine lv_iload_n hx hb d_IM_hasZerosBehind_2 rfl (lv_at hl 1 rfl) ?_
      refine lv_bipush (v := 24) hx hb d_IM_hasZerosBehind_3 (by decide) ?_
      refine lv_icmp_ge (tgt := 43) hx hb d_IM_hasZerosBehind_5 (by decide) (fun h3 => ?_) (fun h3 => ?_)
      · refine lv_iconst (v := 1) hx hb d_IM_hasZerosBehind_43 (by decide) ?_
        have e0 : (f_IM_hasZerosBehind_2 le w (n + 1) x2) = (1 : Int32) := by rw [f_IM_hasZerosBehind_2, if_pos h3]
        rw [e0]
        exact W.zret (v := (1 : Int32)) (ty := .boolean) hx hb hr (rfl) (fun t ht hW => ⟨⟨(1 : Int32), (), rfl, rfl, by rw [ht]; exact hP, va_K.moved hW.alike hK, hD⟩, hS.F ht⟩) hS.2.2 d_IM_hasZerosBehind_44
      · refine lv_aload_n hx hb d_IM_hasZerosBehind_8 rfl (lv_at hl 0 rfl) ?_
        refine va_get (D := (dC, dI)) (ci := 3) (v := .ref hw) (C := R_IM) (T := F_IM) (N := 1) hx hb hts in_IM hown hK hP 0 rfl rfl 0 (by decide) (hts _ gw_48) (fun _ h9 => h9) rfl d_IM_hasZerosBehind_9 ?_
        refine lv_iconst (v := 1) hx hb d_IM_hasZerosBehind_12 (by decide) ?_
        refine lv_iload_n hx hb d_IM_hasZerosBehind_13 rfl (lv_at hl 1 rfl) ?_
        refine lv_iconst (v := 4) hx hb d_IM_hasZerosBehind_14 (by decide) ?_
        refine lv_idiv hx hb d_IM_hasZerosBehind_15 (by decide) ?_
        refine lv_iadd hx hb d_IM_hasZerosBehind_16 ?_
        refine va_iald hx hb hK hP 1 0 rfl rfl (by first | exact ix_div4 1 16 24 hI.1 (by assumption) rfl (by decide) (by decide) (by decide) | decide) d_IM_hasZerosBehind_17 ?_
        refine lv_bipush (v := 24) hx hb d_IM_hasZerosBehind_18 (by decide) ?_
        refine lv_bipush (v := 8) hx hb d_IM_hasZerosBehind_20 (by decide) ?_
        refine lv_iload_n hx hb d_IM_hasZerosBehind_22 rfl (lv_at hl 1 rfl) ?_
        refine lv_iconst (v := 4) hx hb d_IM_hasZerosBehind_23 (by decide) ?_
        refine lv_irem hx hb d_IM_hasZerosBehind_24 (by decide) ?_
        refine lv_imul hx hb d_IM_hasZerosBehind_25 ?_
        refine lv_isub hx hb d_IM_hasZerosBehind_26 ?_
        refine lv_iushr (v := (ju (w (((1 : Int32) + (x2 / (4 : Int32)))).toNatClampNeg) ((24 : Int32) - ((8 : Int32) * (x2 - x2 / (4 : Int32) * (4 : Int32)))))) hx hb d_IM_hasZerosBehind_27 rfl ?_
        refine lv_sipush (v := 255) hx hb d_IM_hasZerosBehind_28 (by decide) ?_
        refine lv_iand hx hb d_IM_hasZerosBehind_31 ?_
        refine lv_if_eq (tgt := 37) hx hb d_IM_hasZerosBehind_32 (by decide) (fun h4 => ?_) (fun h4 => ?_)
        · refine lv_iinc (k := 1) (v := (x2 + (1 : Int32))) (lv' := [(2, .int (x2 + (1 : Int32))), (0, .ref h)]) hx hb d_IM_hasZerosBehind_37 hl rfl rfl (by decide) rfl (fun ls hl => ?_)
          refine lv_goto (tgt := 2) hx hb d_IM_hasZerosBehind_40 (by decide) ?_
          have e0 : (f_IM_hasZerosBehind_2 le w (n + 1) x2) = f_IM_hasZerosBehind_2 le w n (x2 + (1 : Int32)) := by rw [f_IM_hasZerosBehind_2, if_neg h3, if_pos h4]
          rw [e0]
          exact ih (x2 + (1 : Int32)) _ _ ls (lp_up hI.1 (by assumption)).1 (lp_ms hI.1 (by assumption) hm) (lv_sub hl [1, 0] rfl) hP hD hS
        · refine lv_iconst (v := 0) hx hb d_IM_hasZerosBehind_35 (by decide) ?_
          have e0 : (f_IM_hasZerosBehind_2 le w (n + 1) x2) = (0 : Int32) := by rw [f_IM_hasZerosBehind_2, if_neg h3, if_neg h4]
          rw [e0]
          exact W.zret (v := (0 : Int32)) (ty := .boolean) hx hb hr (rfl) (fun t ht hW => ⟨⟨(0 : Int32), (), rfl, rfl, by rw [ht]; exact hP, va_K.moved hW.alike hK, hD⟩, hS.F ht⟩) hS.2.2 d_IM_hasZerosBehind_36
  have hl := lv_entry ([.ref h, .int le]) (n := 3) (Nat.le_of_ble_eq_true rfl)
  rw [lg_entry_eq]
  generalize (lg_sl ([.ref h, .int le]) ++ List.replicate (3 - (lg_sl ([.ref h, .int le])).length) Slot.unset).toArray = ls at hl ⊢
  have hl : lv_has ls 3 [(0, .ref h), (1, .int le)] := hl
  refine lv_iload_n hx hb d_IM_hasZerosBehind_0 rfl (lv_at hl 1 rfl) ?_
  refine lv_istore_n (lv' := [(2, .int le), (0, .ref h), (1, .int le)]) hx hb d_IM_hasZerosBehind_1 rfl hl (by decide) rfl (fun ls hl => ?_)
  have e0 : (f_IM_hasZerosBehind le w) = f_IM_hasZerosBehind_2 le w 25 le := by rw [f_IM_hasZerosBehind]
  rw [e0]
  exact lp_2 25 le _ _ ls hle (ms24 hle.1) (lv_sub hl [1, 0] rfl) hP hD hS
-- IM_bear
theorem d_IM_bear_0 : decode prog_4_method_11_code 0 = .ok (.iconst 0, 1) := by decide +kernel
theorem d_IM_bear_1 : decode prog_4_method_11_code 1 = .ok (.istore_n 2, 1) := by decide +kernel
theorem d_IM_bear_2 : decode prog_4_method_11_code 2 = .ok (.iload_n 2, 1) := by decide +kernel
theorem d_IM_bear_3 : decode prog_4_method_11_code 3 = .ok (.bipush 8, 2) := by decide +kernel
theorem d_IM_bear_5 : decode prog_4_method_11_code 5 = .ok (.if_icmp .ge 21, 3) := by decide +kernel
theorem d_IM_bear_8 : decode prog_4_method_11_code 8 = .ok (.aload_n 0, 1) := by decide +kernel
theorem d_IM_bear_9 : decode prog_4_method_11_code 9 = .ok (.getfield 9, 3) := by decide +kernel
theorem d_IM_bear_12 : decode prog_4_method_11_code 12 = .ok (.bipush 8, 2) := by decide +kernel
theorem d_IM_bear_14 : decode prog_4_method_11_code 14 = .ok (.iload_n 2, 1) := by decide +kernel
theorem d_IM_bear_15 : decode prog_4_method_11_code 15 = .ok (.iadd, 1) := by decide +kernel
theorem d_IM_bear_16 : decode prog_4_method_11_code 16 = .ok (.aload_n 1, 1) := by decide +kernel
theorem d_IM_bear_17 : decode prog_4_method_11_code 17 = .ok (.iload_n 2, 1) := by decide +kernel
theorem d_IM_bear_18 : decode prog_4_method_11_code 18 = .ok (.iaload, 1) := by decide +kernel
theorem d_IM_bear_19 : decode prog_4_method_11_code 19 = .ok (.iastore, 1) := by decide +kernel
theorem d_IM_bear_20 : decode prog_4_method_11_code 20 = .ok (.iinc 2 1, 3) := by decide +kernel
theorem d_IM_bear_23 : decode prog_4_method_11_code 23 = .ok (.goto (-21), 3) := by decide +kernel
theorem d_IM_bear_26 : decode prog_4_method_11_code 26 = .ok (.return_, 1) := by decide +kernel
def y_IM_bear : MethodName := ⟨"BootChain$Image", "bear", "([I)V"⟩
def ws_IM_bear : List Cond := .code y_IM_bear prog_4_method_11_code 3 none :: bc_G
def f_IM_bear_2 (w : Nat → Int32) (tg : Nat → Int32) : Nat → Int32 → (Nat → Int32) → (Nat → Int32)
  | 0, x2, y1 => y1
  | n + 1, x2, y1 => if (8 : Int32) ≤ x2 then y1 else f_IM_bear_2 w tg n (x2 + (1 : Int32)) (upd y1 (((8 : Int32) + x2)).toNatClampNeg (tg (x2).toNatClampNeg))
def f_IM_bear (w : Nat → Int32) (tg : Nat → Int32) : (Nat → Int32) := f_IM_bear_2 w tg 9 (0 : Int32) w
set_option maxHeartbeats 4000000 in
set_option maxRecDepth 100000 in
theorem c_IM_bear (l : Launch) (dC : Nat → ClassId) (dI : Nat → Nat → Nat) (cI cJ : ClassId) (h th hw : Nat) (sz : Nat) (w : Nat → Int32) (tg : Nat → Int32) : Met l y_IM_bear ws_IM_bear ({ frames := 0, cells := 0, slots := 0, locals := 0 } : Room) (va_Pc [.ref h, .ref th] (bc_pre (dC, dI) cI cJ [(h, .inr (3, [.ref hw])), (hw, .inl (cI, 16, .inl w)), (th, .inl (cI, 8, .inl tg))] sz)) (va_Qv (fun (_ : Unit) => True) (fun _ => bc_post (dC, dI) cI cJ (va_A [(h, .inr (3, [.ref hw])), (hw, .inl (cI, 16, .inl w)), (th, .inl (cI, 8, .inl tg))] sz) [(h, .inr (3, [.ref hw])), (hw, .inl (cI, 16, .inl (f_IM_bear w tg))), (th, .inl (cI, 8, .inl tg))]) (va_A [(h, .inr (3, [.ref hw])), (hw, .inl (cI, 16, .inl w)), (th, .inl (cI, 8, .inl tg))] sz)) 0 0 (va_A [(h, .inr (3, [.ref hw])), (hw, .inl (cI, 16, .inl w)), (th, .inl (cI, 8, .inl tg))] sz) := by
  refine Met.ofW (cc := prog_4_method_11_code) (maxL := 3) (ret := none) (by decide) rfl ?_
  intro p e s m args below meth c s₁ B hml hv
  obtain ⟨rfl, hsz, hP, hK, hD0, hE⟩ := hv
  have hx := B.exec
  have hb := B.bytes
  have hr := B.returns
  have hts : ∀ w ∈ bc_G, w.before ([.ref h, .ref th] : List Value).toArray s = true := fun w h => atoms_spec (ws := ws_IM_bear) B.pre w (List.mem_cons_of_mem _ h)
  have hown : s.vm.findClass "BootChain$Image" = some m.cls := findClass_of_methodNamed B.named
  have hlocks := B.notSynchronized
  subst hsz
  have hD := hD0.self (sz := s.heap.size)
  generalize hAe : va_A [(h, .inr (3, [.ref hw])), (hw, .inl (cI, 16, .inl w)), (th, .inl (cI, 8, .inl tg))] s.heap.size = A at hD hE ⊢
  have hA : ∀ q : Nat, s.heap.size ≤ q → A q := fun q h => by rw [← hAe]; exact Or.inr h
  have hS : va_S A s.heap s.heap [] := va_S.rf
  have lp_2 : ∀ (n : Nat) (x2 : Int32) (y1 : Nat → Int32) (H : Heap) (locs : List Loc) (ls : Array Slot), 0 ≤ x2 ∧ x2 ≤ 8 → ((8 : Int32).toInt - x2.toInt).toNat < n → lv_has ls 3 [(0, .ref h), (1, .ref th), (2, .int x2)] → va_P (dC, dI) classes [(h, .inr (3, [.ref hw])), (hw, .inl (cI, 16, .inl y1)), (th, .inl (cI, 8, .inl tg))] H → va_D A [(h, .inr (3, [.ref hw])), (hw, .inl (cI, 16, .inl y1)), (th, .inl (cI, 8, .inl tg))] → va_S A s.heap H locs → W p l e (headSpec ws_IM_bear ({ frames := 0, cells := 0, slots := 0, locals := 0 } : Room)).room s m ([.ref h, .ref th] : List Value).toArray below meth c H locs 0 0 (MQ below (va_Qv (fun (_ : Unit) => True) (fun _ => bc_post (dC, dI) cI cJ A [(h, .inr (3, [.ref hw])), (hw, .inl (cI, 16, .inl (f_IM_bear_2 w tg n x2 y1))), (th, .inl (cI, 8, .inl tg))]) A) ([.ref h, .ref th] : List Value).toArray s 0 0 A) (F0 m 2 ls []) := by
    intro n
    induction n with
    | zero => intro x2 y1 H locs ls hI hm; exact absurd hm (Nat.not_lt_zero _)
    | succ n ih =>
      intro x2 y1 H locs ls hI hm hl hP hD hS
      refine lv_iload_n hx hb d_IM_bear_2 rfl (lv_at hl 2 rfl) ?_
      refine lv_bipush (v := 8) hx hb d_IM_bear_3 (by decide) ?_
      refine lv_icmp_ge (tgt := 26) hx hb d_IM_bear_5 (by decide) (fun h2 => ?_) (fun h2 => ?_)
      · have e0 : (f_IM_bear_2 w tg (n + 1) x2 y1) = y1 := by rw [f_IM_bear_2, if_pos h2]
        rw [e0]
        exact W.vret hx hb hr (fun t ht hW => ⟨⟨(), rfl, trivial, by rw [ht]; exact hP, va_K.moved hW.alike hK, hD⟩, hS.F ht⟩) hS.2.2 d_IM_bear_26
      · refine lv_aload_n hx hb d_IM_bear_8 rfl (lv_at hl 0 rfl) ?_
        refine va_get (D := (dC, dI)) (ci := 3) (v := .ref hw) (C := R_IM) (T := F_IM) (N := 1) hx hb hts in_IM hown hK hP 0 rfl rfl 0 (by decide) (hts _ gw_48) (fun _ h9 => h9) rfl d_IM_bear_9 ?_
        refine lv_bipush (v := 8) hx hb d_IM_bear_12 (by decide) ?_
        refine lv_iload_n hx hb d_IM_bear_14 rfl (lv_at hl 2 rfl) ?_
        refine lv_iadd hx hb d_IM_bear_15 ?_
        refine lv_aload_n hx hb d_IM_bear_16 rfl (lv_at hl 1 rfl) ?_
        refine lv_iload_n hx hb d_IM_bear_17 rfl (lv_at hl 2 rfl) ?_
        refine va_iald hx hb hK hP 2 0 rfl rfl (by first | exact ix_lt 8 hI.1 (by assumption) rfl (by decide) | exact ix_off 8 16 8 hI.1 (by assumption) rfl (by decide) (by decide)) d_IM_bear_18 ?_
        refine va_iast hx hb hK hP hD hS 1 0 rfl rfl (by first | exact ix_lt 8 hI.1 (by assumption) rfl (by decide) | exact ix_off 8 16 8 hI.1 (by assumption) rfl (by decide) (by decide)) d_IM_bear_19 (fun H locs hP hD hS => ?_)
        have hP : va_P (dC, dI) classes [(h, .inr (3, [.ref hw])), (hw, .inl (cI, 16, .inl (upd y1 (((8 : Int32) + x2)).toNatClampNeg (tg (x2).toNatClampNeg)))), (th, .inl (cI, 8, .inl tg))] H := hP
        have hD : va_D A [(h, .inr (3, [.ref hw])), (hw, .inl (cI, 16, .inl (upd y1 (((8 : Int32) + x2)).toNatClampNeg (tg (x2).toNatClampNeg)))), (th, .inl (cI, 8, .inl tg))] := hD
        refine lv_iinc (k := 2) (v := (x2 + (1 : Int32))) (lv' := [(2, .int (x2 + (1 : Int32))), (0, .ref h), (1, .ref th)]) hx hb d_IM_bear_20 hl rfl rfl (by decide) rfl (fun ls hl => ?_)
        refine lv_goto (tgt := 2) hx hb d_IM_bear_23 (by decide) ?_
        have e0 : (f_IM_bear_2 w tg (n + 1) x2 y1) = f_IM_bear_2 w tg n (x2 + (1 : Int32)) (upd y1 (((8 : Int32) + x2)).toNatClampNeg (tg (x2).toNatClampNeg)) := by rw [f_IM_bear_2, if_neg h2]
        rw [e0]
        exact ih (x2 + (1 : Int32)) (upd y1 (((8 : Int32) + x2)).toNatClampNeg (tg (x2).toNatClampNeg)) _ _ ls (lp_up hI.1 (by assumption)).1 (lp_ms hI.1 (by assumption) hm) (lv_sub hl [1, 2, 0] rfl) hP hD hS
  have hl := lv_entry ([.ref h, .ref th]) (n := 3) (Nat.le_of_ble_eq_true rfl)
  rw [lg_entry_eq]
  generalize (lg_sl ([.ref h, .ref th]) ++ List.replicate (3 - (lg_sl ([.ref h, .ref th])).length) Slot.unset).toArray = ls at hl ⊢
  have hl : lv_has ls 3 [(0, .ref h), (1, .ref th)] := hl
  refine lv_iconst (v := 0) hx hb d_IM_bear_0 (by decide) ?_
  refine lv_istore_n (lv' := [(2, .int (0 : Int32)), (0, .ref h), (1, .ref th)]) hx hb d_IM_bear_1 rfl hl (by decide) rfl (fun ls hl => ?_)
  have e0 : (f_IM_bear w tg) = f_IM_bear_2 w tg 9 (0 : Int32) w := by rw [f_IM_bear]
  rw [e0]
  exact lp_2 9 (0 : Int32) w _ _ ls ⟨by decide, by decide⟩ (by decide) (lv_sub hl [1, 2, 0] rfl) hP hD hS
-- IM_bears
theorem d_IM_bears_0 : decode prog_4_method_12_code 0 = .ok (.iconst 0, 1) := by decide +kernel
theorem d_IM_bears_1 : decode prog_4_method_12_code 1 = .ok (.istore_n 2, 1) := by decide +kernel
theorem d_IM_bears_2 : decode prog_4_method_12_code 2 = .ok (.iload_n 2, 1) := by decide +kernel
theorem d_IM_bears_3 : decode prog_4_method_12_code 3 = .ok (.bipush 8, 2) := by decide +kernel
theorem d_IM_bears_5 : decode prog_4_method_12_code 5 = .ok (.if_icmp .ge 26, 3) := by decide +kernel
theorem d_IM_bears_8 : decode prog_4_method_12_code 8 = .ok (.aload_n 0, 1) := by decide +kernel
theorem d_IM_bears_9 : decode prog_4_method_12_code 9 = .ok (.getfield 9, 3) := by decide +kernel
theorem d_IM_bears_12 : decode prog_4_method_12_code 12 = .ok (.bipush 8, 2) := by decide +kernel
theorem d_IM_bears_14 : decode prog_4_method_12_code 14 = .ok (.iload_n 2, 1) := by decide +kernel
theorem d_IM_bears_15 : decode prog_4_method_12_code 15 = .ok (.iadd, 1) := by decide +kernel
theorem d_IM_bears_16 : decode prog_4_method_12_code 16 = .ok (.iaload, 1) := by decide +kernel
theorem d_IM_bears_17 : decode prog_4_method_12_code 17 = .ok (.aload_n 1, 1) := by decide +kernel
theorem d_IM_bears_18 : decode prog_4_method_12_code 18 = .ok (.iload_n 2, 1) := by decide +kernel
theorem d_IM_bears_19 : decode prog_4_method_12_code 19 = .ok (.iaload, 1) := by decide +kernel
theorem d_IM_bears_20 : decode prog_4_method_12_code 20 = .ok (.if_icmp .eq 5, 3) := by decide +kernel
theorem d_IM_bears_23 : decode prog_4_method_12_code 23 = .ok (.iconst 0, 1) := by decide +kernel
theorem d_IM_bears_24 : decode prog_4_method_12_code 24 = .ok (.ireturn, 1) := by decide +kernel
theorem d_IM_bears_25 : decode prog_4_method_12_code 25 = .ok (.iinc 2 1, 3) := by decide +kernel
theorem d_IM_bears_28 : decode prog_4_method_12_code 28 = .ok (.goto (-26), 3) := by decide +kernel
theorem d_IM_bears_31 : decode prog_4_method_12_code 31 = .ok (.iconst 1, 1) := by decide +kernel
theorem d_IM_bears_32 : decode prog_4_method_12_code 32 = .ok (.ireturn, 1) := by decide +kernel
def y_IM_bears : MethodName := ⟨"BootChain$Image", "bears", "([I)Z"⟩
def ws_IM_bears : List Cond := .code y_IM_bears prog_4_method_12_code 3 (some .boolean) :: bc_G
def f_IM_bears_2 (w : Nat → Int32) (tg : Nat → Int32) : Nat → Int32 → Int32
  | 0, x2 => 0
  | n + 1, x2 => if (8 : Int32) ≤ x2 then (1 : Int32) else if (w (((8 : Int32) + x2)).toNatClampNeg) = (tg (x2).toNatClampNeg) then f_IM_bears_2 w tg n (x2 + (1 : Int32)) else (0 : Int32)
def f_IM_bears (w : Nat → Int32) (tg : Nat → Int32) : Int32 := f_IM_bears_2 w tg 9 (0 : Int32)
set_option maxHeartbeats 4000000 in
set_option maxRecDepth 100000 in
theorem c_IM_bears (l : Launch) (dC : Nat → ClassId) (dI : Nat → Nat → Nat) (cI cJ : ClassId) (h th hw : Nat) (sz : Nat) (w : Nat → Int32) (tg : Nat → Int32) : Met l y_IM_bears ws_IM_bears ({ frames := 0, cells := 0, slots := 0, locals := 0 } : Room) (va_Pc [.ref h, .ref th] (bc_pre (dC, dI) cI cJ [(h, .inr (3, [.ref hw])), (hw, .inl (cI, 16, .inl w)), (th, .inl (cI, 8, .inl tg))] sz)) (va_Qi (fun (r : Int32) (_ : Unit) => r = (f_IM_bears w tg)) (fun _ => bc_post (dC, dI) cI cJ (va_A [(h, .inr (3, [.ref hw])), (hw, .inl (cI, 16, .inl w)), (th, .inl (cI, 8, .inl tg))] sz) [(h, .inr (3, [.ref hw])), (hw, .inl (cI, 16, .inl w)), (th, .inl (cI, 8, .inl tg))]) (va_A [(h, .inr (3, [.ref hw])), (hw, .inl (cI, 16, .inl w)), (th, .inl (cI, 8, .inl tg))] sz)) 0 0 (va_A [(h, .inr (3, [.ref hw])), (hw, .inl (cI, 16, .inl w)), (th, .inl (cI, 8, .inl tg))] sz) := by
  refine Met.ofW (cc := prog_4_method_12_code) (maxL := 3) (ret := (some .boolean)) (by decide) rfl ?_
  intro p e s m args below meth c s₁ B hml hv
  obtain ⟨rfl, hsz, hP, hK, hD0, hE⟩ := hv
  have hx := B.exec
  have hb := B.bytes
  have hr := B.returns
  have hts : ∀ w ∈ bc_G, w.before ([.ref h, .ref th] : List Value).toArray s = true := fun w h => atoms_spec (ws := ws_IM_bears) B.pre w (List.mem_cons_of_mem _ h)
  have hown : s.vm.findClass "BootChain$Image" = some m.cls := findClass_of_methodNamed B.named
  have hlocks := B.notSynchronized
  subst hsz
  have hD := hD0.self (sz := s.heap.size)
  generalize hAe : va_A [(h, .inr (3, [.ref hw])), (hw, .inl (cI, 16, .inl w)), (th, .inl (cI, 8, .inl tg))] s.heap.size = A at hD hE ⊢
  have hA : ∀ q : Nat, s.heap.size ≤ q → A q := fun q h => by rw [← hAe]; exact Or.inr h
  have hS : va_S A s.heap s.heap [] := va_S.rf
  have lp_2 : ∀ (n : Nat) (x2 : Int32) (H : Heap) (locs : List Loc) (ls : Array Slot), 0 ≤ x2 ∧ x2 ≤ 8 → ((8 : Int32).toInt - x2.toInt).toNat < n → lv_has ls 3 [(0, .ref h), (1, .ref th), (2, .int x2)] → va_P (dC, dI) classes [(h, .inr (3, [.ref hw])), (hw, .inl (cI, 16, .inl w)), (th, .inl (cI, 8, .inl tg))] H → va_D A [(h, .inr (3, [.ref hw])), (hw, .inl (cI, 16, .inl w)), (th, .inl (cI, 8, .inl tg))] → va_S A s.heap H locs → W p l e (headSpec ws_IM_bears ({ frames := 0, cells := 0, slots := 0, locals := 0 } : Room)).room s m ([.ref h, .ref th] : List Value).toArray below meth c H locs 0 0 (MQ below (va_Qi (fun (r : Int32) (_ : Unit) => r = (f_IM_bears_2 w tg n x2)) (fun _ => bc_post (dC, dI) cI cJ A [(h, .inr (3, [.ref hw])), (hw, .inl (cI, 16, .inl w)), (th, .inl (cI, 8, .inl tg))]) A) ([.ref h, .ref th] : List Value).toArray s 0 0 A) (F0 m 2 ls []) := by
    intro n
    induction n with
    | zero => intro x2 H locs ls hI hm; exact absurd hm (Nat.not_lt_zero _)
    | succ n ih =>
      intro x2 H locs ls hI hm hl hP hD hS
      refine lv_iload_n hx hb d_IM_bears_2 rfl (lv_at hl 2 rfl) ?_
      refine lv_bipush (v := 8) hx hb d_IM_bears_3 (by decide) ?_
      refine lv_icmp_ge (tgt := 31) hx hb d_IM_bears_5 (by decide) (fun h3 => ?_) (fun h3 => ?_)
      · refine lv_iconst (v := 1) hx hb d_IM_bears_31 (by decide) ?_
        have e0 : (f_IM_bears_2 w tg (n + 1) x2) = (1 : Int32) := by rw [f_IM_bears_2, if_pos h3]
        rw [e0]
        exact W.zret (v := (1 : Int32)) (ty := .boolean) hx hb hr (rfl) (fun t ht hW => ⟨⟨(1 : Int32), (), rfl, rfl, by rw [ht]; exact hP, va_K.moved hW.alike hK, hD⟩, hS.F ht⟩) hS.2.2 d_IM_bears_32
      · refine lv_aload_n hx hb d_IM_bears_8 rfl (lv_at hl 0 rfl) ?_
        refine va_get (D := (dC, dI)) (ci := 3) (v := .ref hw) (C := R_IM) (T := F_IM) (N := 1) hx hb hts in_IM hown hK hP 0 rfl rfl 0 (by decide) (hts _ gw_48) (fun _ h9 => h9) rfl d_IM_bears_9 ?_
        refine lv_bipush (v := 8) hx hb d_IM_bears_12 (by decide) ?_
        refine lv_iload_n hx hb d_IM_bears_14 rfl (lv_at hl 2 rfl) ?_
        refine lv_iadd hx hb d_IM_bears_15 ?_
        refine va_iald hx hb hK hP 1 0 rfl rfl (by first | exact ix_lt 8 hI.1 (by assumption) rfl (by decide) | exact ix_off 8 16 8 hI.1 (by assumption) rfl (by decide) (by decide)) d_IM_bears_16 ?_
        refine lv_aload_n hx hb d_IM_bears_17 rfl (lv_at hl 1 rfl) ?_
        refine lv_iload_n hx hb d_IM_bears_18 rfl (lv_at hl 2 rfl) ?_
        refine va_iald hx hb hK hP 2 0 rfl rfl (by first | exact ix_lt 8 hI.1 (by assumption) rfl (by decide) | exact ix_off 8 16 8 hI.1 (by assumption) rfl (by decide) (by decide)) d_IM_bears_19 ?_
        refine lv_icmp_eq (tgt := 25) hx hb d_IM_bears_20 (by decide) (fun h4 => ?_) (fun h4 => ?_)
        · refine lv_iinc (k := 2) (v := (x2 + (1 : Int32))) (lv' := [(2, .int (x2 + (1 : Int32))), (0, .ref h), (1, .ref th)]) hx hb d_IM_bears_25 hl rfl rfl (by decide) rfl (fun ls hl => ?_)
          refine lv_goto (tgt := 2) hx hb d_IM_bears_28 (by decide) ?_
          have e0 : (f_IM_bears_2 w tg (n + 1) x2) = f_IM_bears_2 w tg n (x2 + (1 : Int32)) := by rw [f_IM_bears_2, if_neg h3, if_pos h4]
          rw [e0]
          exact ih (x2 + (1 : Int32)) _ _ ls (lp_up hI.1 (by assumption)).1 (lp_ms hI.1 (by assumption) hm) (lv_sub hl [1, 2, 0] rfl) hP hD hS
        · refine lv_iconst (v := 0) hx hb d_IM_bears_23 (by decide) ?_
          have e0 : (f_IM_bears_2 w tg (n + 1) x2) = (0 : Int32) := by rw [f_IM_bears_2, if_neg h3, if_neg h4]
          rw [e0]
          exact W.zret (v := (0 : Int32)) (ty := .boolean) hx hb hr (rfl) (fun t ht hW => ⟨⟨(0 : Int32), (), rfl, rfl, by rw [ht]; exact hP, va_K.moved hW.alike hK, hD⟩, hS.F ht⟩) hS.2.2 d_IM_bears_24
  have hl := lv_entry ([.ref h, .ref th]) (n := 3) (Nat.le_of_ble_eq_true rfl)
  rw [lg_entry_eq]
  generalize (lg_sl ([.ref h, .ref th]) ++ List.replicate (3 - (lg_sl ([.ref h, .ref th])).length) Slot.unset).toArray = ls at hl ⊢
  have hl : lv_has ls 3 [(0, .ref h), (1, .ref th)] := hl
  refine lv_iconst (v := 0) hx hb d_IM_bears_0 (by decide) ?_
  refine lv_istore_n (lv' := [(2, .int (0 : Int32)), (0, .ref h), (1, .ref th)]) hx hb d_IM_bears_1 rfl hl (by decide) rfl (fun ls hl => ?_)
  have e0 : (f_IM_bears w tg) = f_IM_bears_2 w tg 9 (0 : Int32) := by rw [f_IM_bears]
  rw [e0]
  exact lp_2 9 (0 : Int32) _ _ ls ⟨by decide, by decide⟩ (by decide) (lv_sub hl [1, 2, 0] rfl) hP hD hS
theorem p_bearsL (iw tg : Nat → Int32) : ∀ (n : Nat) (x : Int32), f_IM_bears_2 iw tg n x = 0 ∨ f_IM_bears_2 iw tg n x = 1 := by
  intro n
  induction n with
  | zero => intro x; exact Or.inl rfl
  | succ n ih =>
    intro x
    rw [f_IM_bears_2]
    split
    · exact Or.inr rfl
    · split
      · exact ih _
      · exact Or.inl rfl
theorem p_bears (iw tg : Nat → Int32) : f_IM_bears iw tg = 0 ∨ f_IM_bears iw tg = 1 := p_bearsL _ _ _ _
theorem z_of {x : Int32} (h : x = 0 ∨ x = 1) : narrow .boolean (.int x) = .int x := by
  rcases h with rfl | rfl <;> rfl

-- IM_hasFormOf
theorem d_IM_hasFormOf_0 : decode prog_4_method_7_code 0 = .ok (.aload_n 0, 1) := by decide +kernel
theorem d_IM_hasFormOf_1 : decode prog_4_method_7_code 1 = .ok (.getfield 9, 3) := by decide +kernel
theorem d_IM_hasFormOf_4 : decode prog_4_method_7_code 4 = .ok (.iconst 0, 1) := by decide +kernel
theorem d_IM_hasFormOf_5 : decode prog_4_method_7_code 5 = .ok (.iaload, 1) := by decide +kernel
theorem d_IM_hasFormOf_6 : decode prog_4_method_7_code 6 = .ok (.sipush 255, 3) := by decide +kernel
theorem d_IM_hasFormOf_9 : decode prog_4_method_7_code 9 = .ok (.iand, 1) := by decide +kernel
theorem d_IM_hasFormOf_10 : decode prog_4_method_7_code 10 = .ok (.istore_n 2, 1) := by decide +kernel
theorem d_IM_hasFormOf_11 : decode prog_4_method_7_code 11 = .ok (.aload_n 0, 1) := by decide +kernel
theorem d_IM_hasFormOf_12 : decode prog_4_method_7_code 12 = .ok (.getfield 9, 3) := by decide +kernel
theorem d_IM_hasFormOf_15 : decode prog_4_method_7_code 15 = .ok (.iconst 0, 1) := by decide +kernel
theorem d_IM_hasFormOf_16 : decode prog_4_method_7_code 16 = .ok (.iaload, 1) := by decide +kernel
theorem d_IM_hasFormOf_17 : decode prog_4_method_7_code 17 = .ok (.bipush 16, 2) := by decide +kernel
theorem d_IM_hasFormOf_19 : decode prog_4_method_7_code 19 = .ok (.iushr, 1) := by decide +kernel
theorem d_IM_hasFormOf_20 : decode prog_4_method_7_code 20 = .ok (.iload_n 1, 1) := by decide +kernel
theorem d_IM_hasFormOf_21 : decode prog_4_method_7_code 21 = .ok (.if_icmp .ne 31, 3) := by decide +kernel
theorem d_IM_hasFormOf_24 : decode prog_4_method_7_code 24 = .ok (.iload_n 2, 1) := by decide +kernel
theorem d_IM_hasFormOf_25 : decode prog_4_method_7_code 25 = .ok (.bipush 24, 2) := by decide +kernel
theorem d_IM_hasFormOf_27 : decode prog_4_method_7_code 27 = .ok (.if_icmp .gt 25, 3) := by decide +kernel
theorem d_IM_hasFormOf_30 : decode prog_4_method_7_code 30 = .ok (.aload_n 0, 1) := by decide +kernel
theorem d_IM_hasFormOf_31 : decode prog_4_method_7_code 31 = .ok (.iload_n 2, 1) := by decide +kernel
theorem d_IM_hasFormOf_32 : decode prog_4_method_7_code 32 = .ok (.invokevirtual 37, 3) := by decide +kernel
theorem d_IM_hasFormOf_35 : decode prog_4_method_7_code 35 = .ok (.ifCond .eq 17, 3) := by decide +kernel
theorem d_IM_hasFormOf_38 : decode prog_4_method_7_code 38 = .ok (.aload_n 0, 1) := by decide +kernel
theorem d_IM_hasFormOf_39 : decode prog_4_method_7_code 39 = .ok (.getfield 9, 3) := by decide +kernel
theorem d_IM_hasFormOf_42 : decode prog_4_method_7_code 42 = .ok (.bipush 7, 2) := by decide +kernel
theorem d_IM_hasFormOf_44 : decode prog_4_method_7_code 44 = .ok (.iaload, 1) := by decide +kernel
theorem d_IM_hasFormOf_45 : decode prog_4_method_7_code 45 = .ok (.ifCond .ne 7, 3) := by decide +kernel
theorem d_IM_hasFormOf_48 : decode prog_4_method_7_code 48 = .ok (.iconst 1, 1) := by decide +kernel
theorem d_IM_hasFormOf_49 : decode prog_4_method_7_code 49 = .ok (.goto 4, 3) := by decide +kernel
theorem d_IM_hasFormOf_52 : decode prog_4_method_7_code 52 = .ok (.iconst 0, 1) := by decide +kernel
theorem d_IM_hasFormOf_53 : decode prog_4_method_7_code 53 = .ok (.ireturn, 1) := by decide +kernel
def y_IM_hasFormOf : MethodName := ⟨"BootChain$Image", "hasFormOf", "(I)Z"⟩
def ws_IM_hasFormOf : List Cond := .code y_IM_hasFormOf prog_4_method_7_code 3 (some .boolean) :: bc_G
def f_IM_hasFormOf (sg : Int32) (w : Nat → Int32) : Int32 := if (ju (w ((0 : Int32)).toNatClampNeg) (16 : Int32)) = sg then if (24 : Int32) < ((w ((0 : Int32)).toNatClampNeg) &&& (255 : Int32)) then (0 : Int32) else if (f_IM_hasZerosBehind ((w ((0 : Int32)).toNatClampNeg) &&& (255 : Int32)) w) = 0 then (0 : Int32) else if (w ((7 : Int32)).toNatClampNeg) = 0 then (1 : Int32) else (0 : Int32) else (0 : Int32)
set_option maxHeartbeats 4000000 in
set_option maxRecDepth 100000 in
theorem c_IM_hasFormOf (l : Launch) (dC : Nat → ClassId) (dI : Nat → Nat → Nat) (cI cJ : ClassId) (h hw : Nat) (sz : Nat) (sg : Int32) (w : Nat → Int32) : Met l y_IM_hasFormOf ws_IM_hasFormOf ({ frames := 1, cells := 0, slots := 0, locals := 22 } : Room) (va_Pc [.ref h, .int sg] (bc_pre (dC, dI) cI cJ [(h, .inr (3, [.ref hw])), (hw, .inl (cI, 16, .inl w))] sz)) (va_Qi (fun (r : Int32) (_ : Unit) => r = (f_IM_hasFormOf sg w)) (fun _ => bc_post (dC, dI) cI cJ (va_A [(h, .inr (3, [.ref hw])), (hw, .inl (cI, 16, .inl w))] sz) [(h, .inr (3, [.ref hw])), (hw, .inl (cI, 16, .inl w))]) (va_A [(h, .inr (3, [.ref hw])), (hw, .inl (cI, 16, .inl w))] sz)) 0 0 (va_A [(h, .inr (3, [.ref hw])), (hw, .inl (cI, 16, .inl w))] sz) := by
  refine Met.ofW (cc := prog_4_method_7_code) (maxL := 3) (ret := (some .boolean)) (by decide) rfl ?_
  intro p e s m args below meth c s₁ B hml hv
  obtain ⟨rfl, hsz, hP, hK, hD0, hE⟩ := hv
  have hx := B.exec
  have hb := B.bytes
  have hr := B.returns
  have hts : ∀ w ∈ bc_G, w.before ([.ref h, .int sg] : List Value).toArray s = true := fun w h => atoms_spec (ws := ws_IM_hasFormOf) B.pre w (List.mem_cons_of_mem _ h)
  have hown : s.vm.findClass "BootChain$Image" = some m.cls := findClass_of_methodNamed B.named
  have hlocks := B.notSynchronized
  subst hsz
  have hD := hD0.self (sz := s.heap.size)
  generalize hAe : va_A [(h, .inr (3, [.ref hw])), (hw, .inl (cI, 16, .inl w))] s.heap.size = A at hD hE ⊢
  have hA : ∀ q : Nat, s.heap.size ≤ q → A q := fun q h => by rw [← hAe]; exact Or.inr h
  have hS : va_S A s.heap s.heap [] := va_S.rf
  have hl := lv_entry ([.ref h, .int sg]) (n := 3) (Nat.le_of_ble_eq_true rfl)
  rw [lg_entry_eq]
  generalize (lg_sl ([.ref h, .int sg]) ++ List.replicate (3 - (lg_sl ([.ref h, .int sg])).length) Slot.unset).toArray = ls at hl ⊢
  have hl : lv_has ls 3 [(0, .ref h), (1, .int sg)] := hl
  refine lv_aload_n hx hb d_IM_hasFormOf_0 rfl (lv_at hl 0 rfl) ?_
  refine va_get (D := (dC, dI)) (ci := 3) (v := .ref hw) (C := R_IM) (T := F_IM) (N := 1) hx hb hts in_IM hown hK hP 0 rfl rfl 0 (by decide) (hts _ gw_48) (fun _ h9 => h9) rfl d_IM_hasFormOf_1 ?_
  refine lv_iconst (v := 0) hx hb d_IM_hasFormOf_4 (by decide) ?_
  refine va_iald hx hb hK hP 1 0 rfl rfl (by unfold vp_in; decide +kernel) d_IM_hasFormOf_5 ?_
  refine lv_sipush (v := 255) hx hb d_IM_hasFormOf_6 (by decide) ?_
  refine lv_iand hx hb d_IM_hasFormOf_9 ?_
  refine lv_istore_n (lv' := [(2, .int ((w ((0 : Int32)).toNatClampNeg) &&& (255 : Int32))), (0, .ref h), (1, .int sg)]) hx hb d_IM_hasFormOf_10 rfl hl (by decide) rfl (fun ls hl => ?_)
  refine lv_aload_n hx hb d_IM_hasFormOf_11 rfl (lv_at hl 1 rfl) ?_
  refine va_get (D := (dC, dI)) (ci := 3) (v := .ref hw) (C := R_IM) (T := F_IM) (N := 1) hx hb hts in_IM hown hK hP 0 rfl rfl 0 (by decide) (hts _ gw_48) (fun _ h9 => h9) rfl d_IM_hasFormOf_12 ?_
  refine lv_iconst (v := 0) hx hb d_IM_hasFormOf_15 (by decide) ?_
  refine va_iald hx hb hK hP 1 0 rfl rfl (by unfold vp_in; decide +kernel) d_IM_hasFormOf_16 ?_
  refine lv_bipush (v := 16) hx hb d_IM_hasFormOf_17 (by decide) ?_
  refine lv_iushr (v := (ju (w ((0 : Int32)).toNatClampNeg) (16 : Int32))) hx hb d_IM_hasFormOf_19 rfl ?_
  refine lv_iload_n hx hb d_IM_hasFormOf_20 rfl (lv_at hl 2 rfl) ?_
  refine lv_icmp_ne (tgt := 52) hx hb d_IM_hasFormOf_21 (by decide) (fun h5 => ?_) (fun h5 => ?_)
  · refine lv_iconst (v := 0) hx hb d_IM_hasFormOf_52 (by decide) ?_
    have e0 : (f_IM_hasFormOf sg w) = (0 : Int32) := by rw [f_IM_hasFormOf, if_neg h5]
    rw [e0]
    exact W.zret (v := (0 : Int32)) (ty := .boolean) hx hb hr (rfl) (fun t ht hW => ⟨⟨(0 : Int32), (), rfl, rfl, by rw [ht]; exact hP, va_K.moved hW.alike hK, hD⟩, hS.F ht⟩) hS.2.2 d_IM_hasFormOf_53
  · refine lv_iload_n hx hb d_IM_hasFormOf_24 rfl (lv_at hl 0 rfl) ?_
    refine lv_bipush (v := 24) hx hb d_IM_hasFormOf_25 (by decide) ?_
    refine lv_icmp_gt (tgt := 52) hx hb d_IM_hasFormOf_27 (by decide) (fun h6 => ?_) (fun h6 => ?_)
    · refine lv_iconst (v := 0) hx hb d_IM_hasFormOf_52 (by decide) ?_
      have e0 : (f_IM_hasFormOf sg w) = (0 : Int32) := by rw [f_IM_hasFormOf, if_pos h5, if_pos h6]
      rw [e0]
      exact W.zret (v := (0 : Int32)) (ty := .boolean) hx hb hr (rfl) (fun t ht hW => ⟨⟨(0 : Int32), (), rfl, rfl, by rw [ht]; exact hP, va_K.moved hW.alike hK, hD⟩, hS.F ht⟩) hS.2.2 d_IM_hasFormOf_53
    · refine lv_aload_n hx hb d_IM_hasFormOf_30 rfl (lv_at hl 1 rfl) ?_
      refine lv_iload_n hx hb d_IM_hasFormOf_31 rfl (lv_at hl 0 rfl) ?_
      have hPc := hP.sub (ws' := [(h, .inr (3, [.ref hw])), (hw, .inl (cI, 16, .inl w))]) [0, 1] rfl
      have hDc := hD.sub (ws' := [(h, .inr (3, [.ref hw])), (hw, .inl (cI, 16, .inl w))]) [0, 1] (by decide) rfl
      have hFc := va_free (wc := [(h, .inr (3, [.ref hw])), (hw, .inl (cI, 16, .inl w))]) hD hS hA [0, 1] rfl
      refine va_calli (va_runV (As := [.int ((w ((0 : Int32)).toNatClampNeg) &&& (255 : Int32))]) (rest := []) ⟨hx, hb, hml, hown, hts⟩ (c_IM_hasZerosBehind l dC dI cI cJ h hw _ ((w ((0 : Int32)).toNatClampNeg) &&& (255 : Int32)) w (hz_of (by assumption))) ⟨callB_of 1 hts (bc_good gw_324) rfl rfl rfl (hts _ gw_4) (hts _ gw_322) (by decide +kernel) ⟨Nat.le_of_ble_eq_true rfl, Nat.le_of_ble_eq_true rfl⟩, (hts _ gw_323), (hts _ gw_700)⟩ ⟨bc_blind, va_recv (q0 := 0) hK hP (q := (R_IM, F_IM, 1)) rfl rfl, fun U hU hW => ⟨rfl, bc_give hPc hDc hK hE hS hFc U hU hW⟩⟩ rfl rfl hl.1 rfl (lv_room (Nat.le_of_ble_eq_true rfl)) d_IM_hasFormOf_32 ⟨Nat.le_of_ble_eq_true rfl, Nat.le_of_ble_eq_true rfl⟩) hS (fun q _ h => hFc q h) hFc (fun r u t H9 locs ht hvm hp hB hz1 hk1 hS => ?_)
      subst hp
      obtain ⟨hP, hD⟩ := va_join (wr := []) (w1 := [(h, .inr (3, [.ref hw])), (hw, .inl (cI, 16, .inl w))]) hP hD [0, 1] [] rfl rfl (by decide) (by decide) hk1 hFc (ht ▸ hB.1) hB.2.2
      have hP := hP.sub (ws' := [(h, .inr (3, [.ref hw])), (hw, .inl (cI, 16, .inl w))]) [0, 1] rfl
      have hD := hD.sub (ws' := [(h, .inr (3, [.ref hw])), (hw, .inl (cI, 16, .inl w))]) [0, 1] (by decide) rfl
      generalize H9 = H at hP hS ⊢
      refine lv_if_eq (tgt := 52) hx hb d_IM_hasFormOf_35 (by decide) (fun h7 => ?_) (fun h7 => ?_)
      · refine lv_iconst (v := 0) hx hb d_IM_hasFormOf_52 (by decide) ?_
        have e0 : (f_IM_hasFormOf sg w) = (0 : Int32) := by rw [f_IM_hasFormOf, if_pos h5, if_neg h6, if_pos h7]
        rw [e0]
        exact W.zret (v := (0 : Int32)) (ty := .boolean) hx hb hr (rfl) (fun t ht hW => ⟨⟨(0 : Int32), (), rfl, rfl, by rw [ht]; exact hP, va_K.moved hW.alike hK, hD⟩, hS.F ht⟩) hS.2.2 d_IM_hasFormOf_53
      · refine lv_aload_n hx hb d_IM_hasFormOf_38 rfl (lv_at hl 1 rfl) ?_
        refine va_get (D := (dC, dI)) (ci := 3) (v := .ref hw) (C := R_IM) (T := F_IM) (N := 1) hx hb hts in_IM hown hK hP 0 rfl rfl 0 (by decide) (hts _ gw_48) (fun _ h9 => h9) rfl d_IM_hasFormOf_39 ?_
        refine lv_bipush (v := 7) hx hb d_IM_hasFormOf_42 (by decide) ?_
        refine va_iald hx hb hK hP 1 0 rfl rfl (by unfold vp_in; decide +kernel) d_IM_hasFormOf_44 ?_
        refine lv_if_ne (tgt := 52) hx hb d_IM_hasFormOf_45 (by decide) (fun h8 => ?_) (fun h8 => ?_)
        · refine lv_iconst (v := 0) hx hb d_IM_hasFormOf_52 (by decide) ?_
          have e0 : (f_IM_hasFormOf sg w) = (0 : Int32) := by rw [f_IM_hasFormOf, if_pos h5, if_neg h6, if_neg h7, if_neg h8]
          rw [e0]
          exact W.zret (v := (0 : Int32)) (ty := .boolean) hx hb hr (rfl) (fun t ht hW => ⟨⟨(0 : Int32), (), rfl, rfl, by rw [ht]; exact hP, va_K.moved hW.alike hK, hD⟩, hS.F ht⟩) hS.2.2 d_IM_hasFormOf_53
        · refine lv_iconst (v := 1) hx hb d_IM_hasFormOf_48 (by decide) ?_
          refine lv_goto (tgt := 53) hx hb d_IM_hasFormOf_49 (by decide) ?_
          have e0 : (f_IM_hasFormOf sg w) = (1 : Int32) := by rw [f_IM_hasFormOf, if_pos h5, if_neg h6, if_neg h7, if_pos h8]
          rw [e0]
          exact W.zret (v := (1 : Int32)) (ty := .boolean) hx hb hr (rfl) (fun t ht hW => ⟨⟨(1 : Int32), (), rfl, rfl, by rw [ht]; exact hP, va_K.moved hW.alike hK, hD⟩, hS.F ht⟩) hS.2.2 d_IM_hasFormOf_53
-- IM_sealInto
theorem d_IM_sealInto_0 : decode prog_4_method_9_code 0 = .ok (.iconst 4, 1) := by decide +kernel
theorem d_IM_sealInto_1 : decode prog_4_method_9_code 1 = .ok (.iload_n 2, 1) := by decide +kernel
theorem d_IM_sealInto_2 : decode prog_4_method_9_code 2 = .ok (.imul, 1) := by decide +kernel
theorem d_IM_sealInto_3 : decode prog_4_method_9_code 3 = .ok (.iconst 1, 1) := by decide +kernel
theorem d_IM_sealInto_4 : decode prog_4_method_9_code 4 = .ok (.iadd, 1) := by decide +kernel
theorem d_IM_sealInto_5 : decode prog_4_method_9_code 5 = .ok (.istore 4, 2) := by decide +kernel
theorem d_IM_sealInto_7 : decode prog_4_method_9_code 7 = .ok (.aload_n 3, 1) := by decide +kernel
theorem d_IM_sealInto_8 : decode prog_4_method_9_code 8 = .ok (.invokevirtual 41, 3) := by decide +kernel
theorem d_IM_sealInto_11 : decode prog_4_method_9_code 11 = .ok (.aload_n 3, 1) := by decide +kernel
theorem d_IM_sealInto_12 : decode prog_4_method_9_code 12 = .ok (.iload 4, 2) := by decide +kernel
theorem d_IM_sealInto_14 : decode prog_4_method_9_code 14 = .ok (.iconst 4, 1) := by decide +kernel
theorem d_IM_sealInto_15 : decode prog_4_method_9_code 15 = .ok (.invokevirtual 46, 3) := by decide +kernel
theorem d_IM_sealInto_18 : decode prog_4_method_9_code 18 = .ok (.aload_n 3, 1) := by decide +kernel
theorem d_IM_sealInto_19 : decode prog_4_method_9_code 19 = .ok (.aload_n 0, 1) := by decide +kernel
theorem d_IM_sealInto_20 : decode prog_4_method_9_code 20 = .ok (.getfield 9, 3) := by decide +kernel
theorem d_IM_sealInto_23 : decode prog_4_method_9_code 23 = .ok (.iconst 0, 1) := by decide +kernel
theorem d_IM_sealInto_24 : decode prog_4_method_9_code 24 = .ok (.bipush 7, 2) := by decide +kernel
theorem d_IM_sealInto_26 : decode prog_4_method_9_code 26 = .ok (.invokevirtual 50, 3) := by decide +kernel
theorem d_IM_sealInto_29 : decode prog_4_method_9_code 29 = .ok (.aload_n 3, 1) := by decide +kernel
theorem d_IM_sealInto_30 : decode prog_4_method_9_code 30 = .ok (.iload 4, 2) := by decide +kernel
theorem d_IM_sealInto_32 : decode prog_4_method_9_code 32 = .ok (.iconst 4, 1) := by decide +kernel
theorem d_IM_sealInto_33 : decode prog_4_method_9_code 33 = .ok (.invokevirtual 46, 3) := by decide +kernel
theorem d_IM_sealInto_36 : decode prog_4_method_9_code 36 = .ok (.aload_n 3, 1) := by decide +kernel
theorem d_IM_sealInto_37 : decode prog_4_method_9_code 37 = .ok (.aload_n 1, 1) := by decide +kernel
theorem d_IM_sealInto_38 : decode prog_4_method_9_code 38 = .ok (.iconst 0, 1) := by decide +kernel
theorem d_IM_sealInto_39 : decode prog_4_method_9_code 39 = .ok (.invokevirtual 54, 3) := by decide +kernel
theorem d_IM_sealInto_42 : decode prog_4_method_9_code 42 = .ok (.return_, 1) := by decide +kernel
def y_IM_sealInto : MethodName := ⟨"BootChain$Image", "sealInto", "([IILBootChain$Sha256;)V"⟩
def ws_IM_sealInto : List Cond := .code y_IM_sealInto prog_4_method_9_code 5 none :: bc_G
def f_IM_sealInto_c4 (sg : Int32) (w : Nat → Int32) (tg : Nat → Int32) (sl : Int32) (ms : Nat → Int32) (sc : Nat → Int32) (ch : Nat → Int32) (u1 : Int32 × (Nat → Int32)) (u2 : Int32 × (Nat → Int32)) (u3 : Int32 × (Nat → Int32)) (u4 : (Nat → Int32) × (Nat → Int32) × (Nat → Int32) × (Nat → Int32)) : (Nat → Int32) × Int32 × (Nat → Int32) × (Nat → Int32) × (Nat → Int32) := ((u4.2.2.2), (u3.1), (u4.1), (u4.2.1), (u4.2.2.1))
def f_IM_sealInto_c3 (sg : Int32) (w : Nat → Int32) (tg : Nat → Int32) (sl : Int32) (ms : Nat → Int32) (sc : Nat → Int32) (ch : Nat → Int32) (u1 : Int32 × (Nat → Int32)) (u2 : Int32 × (Nat → Int32)) (u3 : Int32 × (Nat → Int32)) : (Nat → Int32) × Int32 × (Nat → Int32) × (Nat → Int32) × (Nat → Int32) := f_IM_sealInto_c4 sg w tg sl ms sc ch u1 u2 u3 (f_SH_finish 8 (0 : Int32) (u3.1) (u3.2) sc ch tg)
def f_IM_sealInto_c2 (sg : Int32) (w : Nat → Int32) (tg : Nat → Int32) (sl : Int32) (ms : Nat → Int32) (sc : Nat → Int32) (ch : Nat → Int32) (u1 : Int32 × (Nat → Int32)) (u2 : Int32 × (Nat → Int32)) : (Nat → Int32) × Int32 × (Nat → Int32) × (Nat → Int32) × (Nat → Int32) := f_IM_sealInto_c3 sg w tg sl ms sc ch u1 u2 (f_SH_addCounting (((4 : Int32) * sg) + (1 : Int32)) (4 : Int32) (u2.1) (u2.2) sc ch)
def f_IM_sealInto_c1 (sg : Int32) (w : Nat → Int32) (tg : Nat → Int32) (sl : Int32) (ms : Nat → Int32) (sc : Nat → Int32) (ch : Nat → Int32) (u1 : Int32 × (Nat → Int32)) : (Nat → Int32) × Int32 × (Nat → Int32) × (Nat → Int32) × (Nat → Int32) := f_IM_sealInto_c2 sg w tg sl ms sc ch u1 (f_SH_addRow 16 (0 : Int32) (7 : Int32) (u1.1) (u1.2) sc ch w)
def f_IM_sealInto (sg : Int32) (w : Nat → Int32) (tg : Nat → Int32) (sl : Int32) (ms : Nat → Int32) (sc : Nat → Int32) (ch : Nat → Int32) : (Nat → Int32) × Int32 × (Nat → Int32) × (Nat → Int32) × (Nat → Int32) := f_IM_sealInto_c1 sg w tg sl ms sc ch (f_SH_addCounting (((4 : Int32) * sg) + (1 : Int32)) (4 : Int32) (f_SH_begin sl ms sc ch) ms sc ch)
set_option maxHeartbeats 4000000 in
set_option maxRecDepth 100000 in
theorem c_IM_sealInto (l : Launch) (dC : Nat → ClassId) (dI : Nat → Nat → Nat) (cI cJ : ClassId) (h th qs hw gm gs gc : Nat) (sz : Nat) (sg : Int32) (w : Nat → Int32) (tg : Nat → Int32) (sl : Int32) (ms : Nat → Int32) (sc : Nat → Int32) (ch : Nat → Int32) : Met l y_IM_sealInto ws_IM_sealInto ({ frames := 3, cells := 0, slots := 0, locals := 79 } : Room) (va_Pc [.ref h, .ref th, .int sg, .ref qs] (bc_pre (dC, dI) cI cJ [(h, .inr (3, [.ref hw])), (hw, .inl (cI, 16, .inl w)), (th, .inl (cI, 8, .inl tg)), (qs, .inr (4, [.ref gm, .ref gs, .ref gc, .int sl])), (gm, .inl (cI, 32, .inl ms)), (gs, .inl (cI, 64, .inl sc)), (gc, .inl (cI, 8, .inl ch))] sz)) (va_Qv (fun (_ : Unit) => True) (fun _ => bc_post (dC, dI) cI cJ (va_A [(h, .inr (3, [.ref hw])), (hw, .inl (cI, 16, .inl w)), (th, .inl (cI, 8, .inl tg)), (qs, .inr (4, [.ref gm, .ref gs, .ref gc, .int sl])), (gm, .inl (cI, 32, .inl ms)), (gs, .inl (cI, 64, .inl sc)), (gc, .inl (cI, 8, .inl ch))] sz) [(h, .inr (3, [.ref hw])), (hw, .inl (cI, 16, .inl w)), (th, .inl (cI, 8, .inl (f_IM_sealInto sg w tg sl ms sc ch).1)), (qs, .inr (4, [.ref gm, .ref gs, .ref gc, .int (f_IM_sealInto sg w tg sl ms sc ch).2.1])), (gm, .inl (cI, 32, .inl (f_IM_sealInto sg w tg sl ms sc ch).2.2.1)), (gs, .inl (cI, 64, .inl (f_IM_sealInto sg w tg sl ms sc ch).2.2.2.1)), (gc, .inl (cI, 8, .inl (f_IM_sealInto sg w tg sl ms sc ch).2.2.2.2))]) (va_A [(h, .inr (3, [.ref hw])), (hw, .inl (cI, 16, .inl w)), (th, .inl (cI, 8, .inl tg)), (qs, .inr (4, [.ref gm, .ref gs, .ref gc, .int sl])), (gm, .inl (cI, 32, .inl ms)), (gs, .inl (cI, 64, .inl sc)), (gc, .inl (cI, 8, .inl ch))] sz)) 0 0 (va_A [(h, .inr (3, [.ref hw])), (hw, .inl (cI, 16, .inl w)), (th, .inl (cI, 8, .inl tg)), (qs, .inr (4, [.ref gm, .ref gs, .ref gc, .int sl])), (gm, .inl (cI, 32, .inl ms)), (gs, .inl (cI, 64, .inl sc)), (gc, .inl (cI, 8, .inl ch))] sz) := by
  refine Met.ofW (cc := prog_4_method_9_code) (maxL := 5) (ret := none) (by decide) rfl ?_
  intro p e s m args below meth c s₁ B hml hv
  obtain ⟨rfl, hsz, hP, hK, hD0, hE⟩ := hv
  have hx := B.exec
  have hb := B.bytes
  have hr := B.returns
  have hts : ∀ w ∈ bc_G, w.before ([.ref h, .ref th, .int sg, .ref qs] : List Value).toArray s = true := fun w h => atoms_spec (ws := ws_IM_sealInto) B.pre w (List.mem_cons_of_mem _ h)
  have hown : s.vm.findClass "BootChain$Image" = some m.cls := findClass_of_methodNamed B.named
  have hlocks := B.notSynchronized
  subst hsz
  have hD := hD0.self (sz := s.heap.size)
  generalize hAe : va_A [(h, .inr (3, [.ref hw])), (hw, .inl (cI, 16, .inl w)), (th, .inl (cI, 8, .inl tg)), (qs, .inr (4, [.ref gm, .ref gs, .ref gc, .int sl])), (gm, .inl (cI, 32, .inl ms)), (gs, .inl (cI, 64, .inl sc)), (gc, .inl (cI, 8, .inl ch))] s.heap.size = A at hD hE ⊢
  have hA : ∀ q : Nat, s.heap.size ≤ q → A q := fun q h => by rw [← hAe]; exact Or.inr h
  have hS : va_S A s.heap s.heap [] := va_S.rf
  have hl := lv_entry ([.ref h, .ref th, .int sg, .ref qs]) (n := 5) (Nat.le_of_ble_eq_true rfl)
  rw [lg_entry_eq]
  generalize (lg_sl ([.ref h, .ref th, .int sg, .ref qs]) ++ List.replicate (5 - (lg_sl ([.ref h, .ref th, .int sg, .ref qs])).length) Slot.unset).toArray = ls at hl ⊢
  have hl : lv_has ls 5 [(0, .ref h), (1, .ref th), (2, .int sg), (3, .ref qs)] := hl
  refine lv_iconst (v := 4) hx hb d_IM_sealInto_0 (by decide) ?_
  refine lv_iload_n hx hb d_IM_sealInto_1 rfl (lv_at hl 2 rfl) ?_
  refine lv_imul hx hb d_IM_sealInto_2 ?_
  refine lv_iconst (v := 1) hx hb d_IM_sealInto_3 (by decide) ?_
  refine lv_iadd hx hb d_IM_sealInto_4 ?_
  refine lv_istore (lv' := [(4, .int (((4 : Int32) * sg) + (1 : Int32))), (0, .ref h), (1, .ref th), (2, .int sg), (3, .ref qs)]) hx hb d_IM_sealInto_5 hl (by decide) rfl (fun ls hl => ?_)
  refine lv_aload_n hx hb d_IM_sealInto_7 rfl (lv_at hl 4 rfl) ?_
  have hPc := hP.sub (ws' := [(qs, .inr (4, [.ref gm, .ref gs, .ref gc, .int sl])), (gm, .inl (cI, 32, .inl ms)), (gs, .inl (cI, 64, .inl sc)), (gc, .inl (cI, 8, .inl ch))]) [3, 4, 5, 6] rfl
  have hDc := hD.sub (ws' := [(qs, .inr (4, [.ref gm, .ref gs, .ref gc, .int sl])), (gm, .inl (cI, 32, .inl ms)), (gs, .inl (cI, 64, .inl sc)), (gc, .inl (cI, 8, .inl ch))]) [3, 4, 5, 6] (by decide) rfl
  have hFc := va_free (wc := [(qs, .inr (4, [.ref gm, .ref gs, .ref gc, .int sl])), (gm, .inl (cI, 32, .inl ms)), (gs, .inl (cI, 64, .inl sc)), (gc, .inl (cI, 8, .inl ch))]) hD hS hA [3, 4, 5, 6] rfl
  refine va_callv (va_runV (As := []) (rest := []) ⟨hx, hb, hml, hown, hts⟩ (c_SH_begin l dC dI cI cJ qs gm gs gc _ sl ms sc ch) ⟨callB_of 0 hts (bc_good gw_213) rfl rfl rfl (hts _ gw_5) (hts _ gw_210) (by decide +kernel) ⟨Nat.le_of_ble_eq_true rfl, Nat.le_of_ble_eq_true rfl⟩, (hts _ gw_211), (hts _ gw_212)⟩ ⟨bc_blind, va_recv (q0 := 3) hK hP (q := (R_SH, F_SH, 4)) rfl rfl, fun U hU hW => ⟨rfl, bc_give hPc hDc hK hE hS hFc U hU hW⟩⟩ rfl rfl hl.1 rfl (lv_room (Nat.le_of_ble_eq_true rfl)) d_IM_sealInto_8 ⟨Nat.le_of_ble_eq_true rfl, Nat.le_of_ble_eq_true rfl⟩) hS (fun q _ h => hFc q h) hFc (fun u t H9 locs ht hvm hp hB hz1 hk1 hS => ?_)
  obtain ⟨hP, hD⟩ := va_join (wr := [(h, .inr (3, [.ref hw])), (hw, .inl (cI, 16, .inl w)), (th, .inl (cI, 8, .inl tg))]) (w1 := [(qs, .inr (4, [.ref gm, .ref gs, .ref gc, .int (f_SH_begin sl ms sc ch)])), (gm, .inl (cI, 32, .inl ms)), (gs, .inl (cI, 64, .inl sc)), (gc, .inl (cI, 8, .inl ch))]) hP hD [3, 4, 5, 6] [0, 1, 2] rfl rfl (by decide) (by decide) hk1 hFc (ht ▸ hB.1) hB.2.2
  have hP := hP.sub (ws' := [(h, .inr (3, [.ref hw])), (hw, .inl (cI, 16, .inl w)), (th, .inl (cI, 8, .inl tg)), (qs, .inr (4, [.ref gm, .ref gs, .ref gc, .int (f_SH_begin sl ms sc ch)])), (gm, .inl (cI, 32, .inl ms)), (gs, .inl (cI, 64, .inl sc)), (gc, .inl (cI, 8, .inl ch))]) [0, 1, 2, 3, 4, 5, 6] rfl
  have hD := hD.sub (ws' := [(h, .inr (3, [.ref hw])), (hw, .inl (cI, 16, .inl w)), (th, .inl (cI, 8, .inl tg)), (qs, .inr (4, [.ref gm, .ref gs, .ref gc, .int (f_SH_begin sl ms sc ch)])), (gm, .inl (cI, 32, .inl ms)), (gs, .inl (cI, 64, .inl sc)), (gc, .inl (cI, 8, .inl ch))]) [0, 1, 2, 3, 4, 5, 6] (by decide) rfl
  generalize H9 = H at hP hS ⊢
  refine lv_aload_n hx hb d_IM_sealInto_11 rfl (lv_at hl 4 rfl) ?_
  refine lv_iload hx hb d_IM_sealInto_12 (lv_at hl 0 rfl) ?_
  refine lv_iconst (v := 4) hx hb d_IM_sealInto_14 (by decide) ?_
  have hPc := hP.sub (ws' := [(qs, .inr (4, [.ref gm, .ref gs, .ref gc, .int (f_SH_begin sl ms sc ch)])), (gm, .inl (cI, 32, .inl ms)), (gs, .inl (cI, 64, .inl sc)), (gc, .inl (cI, 8, .inl ch))]) [3, 4, 5, 6] rfl
  have hDc := hD.sub (ws' := [(qs, .inr (4, [.ref gm, .ref gs, .ref gc, .int (f_SH_begin sl ms sc ch)])), (gm, .inl (cI, 32, .inl ms)), (gs, .inl (cI, 64, .inl sc)), (gc, .inl (cI, 8, .inl ch))]) [3, 4, 5, 6] (by decide) rfl
  have hFc := va_free (wc := [(qs, .inr (4, [.ref gm, .ref gs, .ref gc, .int (f_SH_begin sl ms sc ch)])), (gm, .inl (cI, 32, .inl ms)), (gs, .inl (cI, 64, .inl sc)), (gc, .inl (cI, 8, .inl ch))]) hD hS hA [3, 4, 5, 6] rfl
  refine va_callv (va_runV (As := [.int (((4 : Int32) * sg) + (1 : Int32)), .int (4 : Int32)]) (rest := []) ⟨hx, hb, hml, hown, hts⟩ (c_SH_addCounting l dC dI cI cJ qs gm gs gc _ (((4 : Int32) * sg) + (1 : Int32)) (4 : Int32) (f_SH_begin sl ms sc ch) ms sc ch b24) ⟨callB_of 2 hts (bc_good gw_217) rfl rfl rfl (hts _ gw_5) (hts _ gw_214) (by decide +kernel) ⟨Nat.le_of_ble_eq_true rfl, Nat.le_of_ble_eq_true rfl⟩, (hts _ gw_215), (hts _ gw_216)⟩ ⟨bc_blind, va_recv (q0 := 3) hK hP (q := (R_SH, F_SH, 4)) rfl rfl, fun U hU hW => ⟨rfl, bc_give hPc hDc hK hE hS hFc U hU hW⟩⟩ rfl rfl hl.1 rfl (lv_room (Nat.le_of_ble_eq_true rfl)) d_IM_sealInto_15 ⟨Nat.le_of_ble_eq_true rfl, Nat.le_of_ble_eq_true rfl⟩) hS (fun q _ h => hFc q h) hFc (fun u t H9 locs ht hvm hp hB hz1 hk1 hS => ?_)
  obtain ⟨hP, hD⟩ := va_join (wr := [(h, .inr (3, [.ref hw])), (hw, .inl (cI, 16, .inl w)), (th, .inl (cI, 8, .inl tg))]) (w1 := [(qs, .inr (4, [.ref gm, .ref gs, .ref gc, .int ((f_SH_addCounting (((4 : Int32) * sg) + (1 : Int32)) (4 : Int32) (f_SH_begin sl ms sc ch) ms sc ch).1)])), (gm, .inl (cI, 32, .inl ((f_SH_addCounting (((4 : Int32) * sg) + (1 : Int32)) (4 : Int32) (f_SH_begin sl ms sc ch) ms sc ch).2))), (gs, .inl (cI, 64, .inl sc)), (gc, .inl (cI, 8, .inl ch))]) hP hD [3, 4, 5, 6] [0, 1, 2] rfl rfl (by decide) (by decide) hk1 hFc (ht ▸ hB.1) hB.2.2
  have hP := hP.sub (ws' := [(h, .inr (3, [.ref hw])), (hw, .inl (cI, 16, .inl w)), (th, .inl (cI, 8, .inl tg)), (qs, .inr (4, [.ref gm, .ref gs, .ref gc, .int ((f_SH_addCounting (((4 : Int32) * sg) + (1 : Int32)) (4 : Int32) (f_SH_begin sl ms sc ch) ms sc ch).1)])), (gm, .inl (cI, 32, .inl ((f_SH_addCounting (((4 : Int32) * sg) + (1 : Int32)) (4 : Int32) (f_SH_begin sl ms sc ch) ms sc ch).2))), (gs, .inl (cI, 64, .inl sc)), (gc, .inl (cI, 8, .inl ch))]) [0, 1, 2, 3, 4, 5, 6] rfl
  have hD := hD.sub (ws' := [(h, .inr (3, [.ref hw])), (hw, .inl (cI, 16, .inl w)), (th, .inl (cI, 8, .inl tg)), (qs, .inr (4, [.ref gm, .ref gs, .ref gc, .int ((f_SH_addCounting (((4 : Int32) * sg) + (1 : Int32)) (4 : Int32) (f_SH_begin sl ms sc ch) ms sc ch).1)])), (gm, .inl (cI, 32, .inl ((f_SH_addCounting (((4 : Int32) * sg) + (1 : Int32)) (4 : Int32) (f_SH_begin sl ms sc ch) ms sc ch).2))), (gs, .inl (cI, 64, .inl sc)), (gc, .inl (cI, 8, .inl ch))]) [0, 1, 2, 3, 4, 5, 6] (by decide) rfl
  generalize H9 = H at hP hS ⊢
  have e0 : (f_IM_sealInto sg w tg sl ms sc ch) = f_IM_sealInto_c1 sg w tg sl ms sc ch (f_SH_addCounting (((4 : Int32) * sg) + (1 : Int32)) (4 : Int32) (f_SH_begin sl ms sc ch) ms sc ch) := by rw [f_IM_sealInto]
  rw [e0]
  generalize hu1 : (f_SH_addCounting (((4 : Int32) * sg) + (1 : Int32)) (4 : Int32) (f_SH_begin sl ms sc ch) ms sc ch) = u1 at hP hD ⊢
  have hP : va_P (dC, dI) classes [(h, .inr (3, [.ref hw])), (hw, .inl (cI, 16, .inl w)), (th, .inl (cI, 8, .inl tg)), (qs, .inr (4, [.ref gm, .ref gs, .ref gc, .int (u1.1)])), (gm, .inl (cI, 32, .inl (u1.2))), (gs, .inl (cI, 64, .inl sc)), (gc, .inl (cI, 8, .inl ch))] H := hP
  have hD : va_D A [(h, .inr (3, [.ref hw])), (hw, .inl (cI, 16, .inl w)), (th, .inl (cI, 8, .inl tg)), (qs, .inr (4, [.ref gm, .ref gs, .ref gc, .int (u1.1)])), (gm, .inl (cI, 32, .inl (u1.2))), (gs, .inl (cI, 64, .inl sc)), (gc, .inl (cI, 8, .inl ch))] := hD
  refine lv_aload_n hx hb d_IM_sealInto_18 rfl (lv_at hl 4 rfl) ?_
  refine lv_aload_n hx hb d_IM_sealInto_19 rfl (lv_at hl 1 rfl) ?_
  refine va_get (D := (dC, dI)) (ci := 3) (v := .ref hw) (C := R_IM) (T := F_IM) (N := 1) hx hb hts in_IM hown hK hP 0 rfl rfl 0 (by decide) (hts _ gw_48) (fun _ h9 => h9) rfl d_IM_sealInto_20 ?_
  refine lv_iconst (v := 0) hx hb d_IM_sealInto_23 (by decide) ?_
  refine lv_bipush (v := 7) hx hb d_IM_sealInto_24 (by decide) ?_
  have hPc := hP.sub (ws' := [(qs, .inr (4, [.ref gm, .ref gs, .ref gc, .int (u1.1)])), (gm, .inl (cI, 32, .inl (u1.2))), (gs, .inl (cI, 64, .inl sc)), (gc, .inl (cI, 8, .inl ch)), (hw, .inl (cI, 16, .inl w))]) [3, 4, 5, 6, 1] rfl
  have hDc := hD.sub (ws' := [(qs, .inr (4, [.ref gm, .ref gs, .ref gc, .int (u1.1)])), (gm, .inl (cI, 32, .inl (u1.2))), (gs, .inl (cI, 64, .inl sc)), (gc, .inl (cI, 8, .inl ch)), (hw, .inl (cI, 16, .inl w))]) [3, 4, 5, 6, 1] (by decide) rfl
  have hFc := va_free (wc := [(qs, .inr (4, [.ref gm, .ref gs, .ref gc, .int (u1.1)])), (gm, .inl (cI, 32, .inl (u1.2))), (gs, .inl (cI, 64, .inl sc)), (gc, .inl (cI, 8, .inl ch)), (hw, .inl (cI, 16, .inl w))]) hD hS hA [3, 4, 5, 6, 1] rfl
  refine va_callv (va_runV (As := [.ref hw, .int (0 : Int32), .int (7 : Int32)]) (rest := []) ⟨hx, hb, hml, hown, hts⟩ (c_SH_addRow l dC dI cI cJ qs hw gm gs gc _ 16 (0 : Int32) (7 : Int32) (u1.1) (u1.2) sc ch w (by rw [← hu1]; exact p_cnt _ _ _ _ _ _ b24) (fun x h0 h1 => ix_off 0 16 7 h0 h1 rfl (by decide) (by decide))) ⟨callB_of 3 hts (bc_good gw_225) rfl rfl rfl (hts _ gw_5) (hts _ gw_222) (by decide +kernel) ⟨Nat.le_of_ble_eq_true rfl, Nat.le_of_ble_eq_true rfl⟩, (hts _ gw_223), (hts _ gw_224)⟩ ⟨bc_blind, va_recv (q0 := 3) hK hP (q := (R_SH, F_SH, 4)) rfl rfl, fun U hU hW => ⟨rfl, bc_give hPc hDc hK hE hS hFc U hU hW⟩⟩ rfl rfl hl.1 rfl (lv_room (Nat.le_of_ble_eq_true rfl)) d_IM_sealInto_26 ⟨Nat.le_of_ble_eq_true rfl, Nat.le_of_ble_eq_true rfl⟩) hS (fun q _ h => hFc q h) hFc (fun u t H9 locs ht hvm hp hB hz1 hk1 hS => ?_)
  obtain ⟨hP, hD⟩ := va_join (wr := [(h, .inr (3, [.ref hw])), (th, .inl (cI, 8, .inl tg))]) (w1 := [(qs, .inr (4, [.ref gm, .ref gs, .ref gc, .int ((f_SH_addRow 16 (0 : Int32) (7 : Int32) (u1.1) (u1.2) sc ch w).1)])), (gm, .inl (cI, 32, .inl ((f_SH_addRow 16 (0 : Int32) (7 : Int32) (u1.1) (u1.2) sc ch w).2))), (gs, .inl (cI, 64, .inl sc)), (gc, .inl (cI, 8, .inl ch)), (hw, .inl (cI, 16, .inl w))]) hP hD [3, 4, 5, 6, 1] [0, 2] rfl rfl (by decide) (by decide) hk1 hFc (ht ▸ hB.1) hB.2.2
  have hP := hP.sub (ws' := [(h, .inr (3, [.ref hw])), (hw, .inl (cI, 16, .inl w)), (th, .inl (cI, 8, .inl tg)), (qs, .inr (4, [.ref gm, .ref gs, .ref gc, .int ((f_SH_addRow 16 (0 : Int32) (7 : Int32) (u1.1) (u1.2) sc ch w).1)])), (gm, .inl (cI, 32, .inl ((f_SH_addRow 16 (0 : Int32) (7 : Int32) (u1.1) (u1.2) sc ch w).2))), (gs, .inl (cI, 64, .inl sc)), (gc, .inl (cI, 8, .inl ch))]) [0, 6, 1, 2, 3, 4, 5] rfl
  have hD := hD.sub (ws' := [(h, .inr (3, [.ref hw])), (hw, .inl (cI, 16, .inl w)), (th, .inl (cI, 8, .inl tg)), (qs, .inr (4, [.ref gm, .ref gs, .ref gc, .int ((f_SH_addRow 16 (0 : Int32) (7 : Int32) (u1.1) (u1.2) sc ch w).1)])), (gm, .inl (cI, 32, .inl ((f_SH_addRow 16 (0 : Int32) (7 : Int32) (u1.1) (u1.2) sc ch w).2))), (gs, .inl (cI, 64, .inl sc)), (gc, .inl (cI, 8, .inl ch))]) [0, 6, 1, 2, 3, 4, 5] (by decide) rfl
  generalize H9 = H at hP hS ⊢
  have e0 : (f_IM_sealInto_c1 sg w tg sl ms sc ch u1) = f_IM_sealInto_c2 sg w tg sl ms sc ch u1 (f_SH_addRow 16 (0 : Int32) (7 : Int32) (u1.1) (u1.2) sc ch w) := by rw [f_IM_sealInto_c1]
  rw [e0]
  generalize hu2 : (f_SH_addRow 16 (0 : Int32) (7 : Int32) (u1.1) (u1.2) sc ch w) = u2 at hP hD ⊢
  have hP : va_P (dC, dI) classes [(h, .inr (3, [.ref hw])), (hw, .inl (cI, 16, .inl w)), (th, .inl (cI, 8, .inl tg)), (qs, .inr (4, [.ref gm, .ref gs, .ref gc, .int (u2.1)])), (gm, .inl (cI, 32, .inl (u2.2))), (gs, .inl (cI, 64, .inl sc)), (gc, .inl (cI, 8, .inl ch))] H := hP
  have hD : va_D A [(h, .inr (3, [.ref hw])), (hw, .inl (cI, 16, .inl w)), (th, .inl (cI, 8, .inl tg)), (qs, .inr (4, [.ref gm, .ref gs, .ref gc, .int (u2.1)])), (gm, .inl (cI, 32, .inl (u2.2))), (gs, .inl (cI, 64, .inl sc)), (gc, .inl (cI, 8, .inl ch))] := hD
  refine lv_aload_n hx hb d_IM_sealInto_29 rfl (lv_at hl 4 rfl) ?_
  refine lv_iload hx hb d_IM_sealInto_30 (lv_at hl 0 rfl) ?_
  refine lv_iconst (v := 4) hx hb d_IM_sealInto_32 (by decide) ?_
  have hPc := hP.sub (ws' := [(qs, .inr (4, [.ref gm, .ref gs, .ref gc, .int (u2.1)])), (gm, .inl (cI, 32, .inl (u2.2))), (gs, .inl (cI, 64, .inl sc)), (gc, .inl (cI, 8, .inl ch))]) [3, 4, 5, 6] rfl
  have hDc := hD.sub (ws' := [(qs, .inr (4, [.ref gm, .ref gs, .ref gc, .int (u2.1)])), (gm, .inl (cI, 32, .inl (u2.2))), (gs, .inl (cI, 64, .inl sc)), (gc, .inl (cI, 8, .inl ch))]) [3, 4, 5, 6] (by decide) rfl
  have hFc := va_free (wc := [(qs, .inr (4, [.ref gm, .ref gs, .ref gc, .int (u2.1)])), (gm, .inl (cI, 32, .inl (u2.2))), (gs, .inl (cI, 64, .inl sc)), (gc, .inl (cI, 8, .inl ch))]) hD hS hA [3, 4, 5, 6] rfl
  refine va_callv (va_runV (As := [.int (((4 : Int32) * sg) + (1 : Int32)), .int (4 : Int32)]) (rest := []) ⟨hx, hb, hml, hown, hts⟩ (c_SH_addCounting l dC dI cI cJ qs gm gs gc _ (((4 : Int32) * sg) + (1 : Int32)) (4 : Int32) (u2.1) (u2.2) sc ch (by rw [← hu2]; exact p_row _ _ _ _ _ _ _ _ (by rw [← hu1]; exact p_cnt _ _ _ _ _ _ b24))) ⟨callB_of 2 hts (bc_good gw_217) rfl rfl rfl (hts _ gw_5) (hts _ gw_214) (by decide +kernel) ⟨Nat.le_of_ble_eq_true rfl, Nat.le_of_ble_eq_true rfl⟩, (hts _ gw_215), (hts _ gw_216)⟩ ⟨bc_blind, va_recv (q0 := 3) hK hP (q := (R_SH, F_SH, 4)) rfl rfl, fun U hU hW => ⟨rfl, bc_give hPc hDc hK hE hS hFc U hU hW⟩⟩ rfl rfl hl.1 rfl (lv_room (Nat.le_of_ble_eq_true rfl)) d_IM_sealInto_33 ⟨Nat.le_of_ble_eq_true rfl, Nat.le_of_ble_eq_true rfl⟩) hS (fun q _ h => hFc q h) hFc (fun u t H9 locs ht hvm hp hB hz1 hk1 hS => ?_)
  obtain ⟨hP, hD⟩ := va_join (wr := [(h, .inr (3, [.ref hw])), (hw, .inl (cI, 16, .inl w)), (th, .inl (cI, 8, .inl tg))]) (w1 := [(qs, .inr (4, [.ref gm, .ref gs, .ref gc, .int ((f_SH_addCounting (((4 : Int32) * sg) + (1 : Int32)) (4 : Int32) (u2.1) (u2.2) sc ch).1)])), (gm, .inl (cI, 32, .inl ((f_SH_addCounting (((4 : Int32) * sg) + (1 : Int32)) (4 : Int32) (u2.1) (u2.2) sc ch).2))), (gs, .inl (cI, 64, .inl sc)), (gc, .inl (cI, 8, .inl ch))]) hP hD [3, 4, 5, 6] [0, 1, 2] rfl rfl (by decide) (by decide) hk1 hFc (ht ▸ hB.1) hB.2.2
  have hP := hP.sub (ws' := [(h, .inr (3, [.ref hw])), (hw, .inl (cI, 16, .inl w)), (th, .inl (cI, 8, .inl tg)), (qs, .inr (4, [.ref gm, .ref gs, .ref gc, .int ((f_SH_addCounting (((4 : Int32) * sg) + (1 : Int32)) (4 : Int32) (u2.1) (u2.2) sc ch).1)])), (gm, .inl (cI, 32, .inl ((f_SH_addCounting (((4 : Int32) * sg) + (1 : Int32)) (4 : Int32) (u2.1) (u2.2) sc ch).2))), (gs, .inl (cI, 64, .inl sc)), (gc, .inl (cI, 8, .inl ch))]) [0, 1, 2, 3, 4, 5, 6] rfl
  have hD := hD.sub (ws' := [(h, .inr (3, [.ref hw])), (hw, .inl (cI, 16, .inl w)), (th, .inl (cI, 8, .inl tg)), (qs, .inr (4, [.ref gm, .ref gs, .ref gc, .int ((f_SH_addCounting (((4 : Int32) * sg) + (1 : Int32)) (4 : Int32) (u2.1) (u2.2) sc ch).1)])), (gm, .inl (cI, 32, .inl ((f_SH_addCounting (((4 : Int32) * sg) + (1 : Int32)) (4 : Int32) (u2.1) (u2.2) sc ch).2))), (gs, .inl (cI, 64, .inl sc)), (gc, .inl (cI, 8, .inl ch))]) [0, 1, 2, 3, 4, 5, 6] (by decide) rfl
  generalize H9 = H at hP hS ⊢
  have e0 : (f_IM_sealInto_c2 sg w tg sl ms sc ch u1 u2) = f_IM_sealInto_c3 sg w tg sl ms sc ch u1 u2 (f_SH_addCounting (((4 : Int32) * sg) + (1 : Int32)) (4 : Int32) (u2.1) (u2.2) sc ch) := by rw [f_IM_sealInto_c2]
  rw [e0]
  generalize hu3 : (f_SH_addCounting (((4 : Int32) * sg) + (1 : Int32)) (4 : Int32) (u2.1) (u2.2) sc ch) = u3 at hP hD ⊢
  have hP : va_P (dC, dI) classes [(h, .inr (3, [.ref hw])), (hw, .inl (cI, 16, .inl w)), (th, .inl (cI, 8, .inl tg)), (qs, .inr (4, [.ref gm, .ref gs, .ref gc, .int (u3.1)])), (gm, .inl (cI, 32, .inl (u3.2))), (gs, .inl (cI, 64, .inl sc)), (gc, .inl (cI, 8, .inl ch))] H := hP
  have hD : va_D A [(h, .inr (3, [.ref hw])), (hw, .inl (cI, 16, .inl w)), (th, .inl (cI, 8, .inl tg)), (qs, .inr (4, [.ref gm, .ref gs, .ref gc, .int (u3.1)])), (gm, .inl (cI, 32, .inl (u3.2))), (gs, .inl (cI, 64, .inl sc)), (gc, .inl (cI, 8, .inl ch))] := hD
  refine lv_aload_n hx hb d_IM_sealInto_36 rfl (lv_at hl 4 rfl) ?_
  refine lv_aload_n hx hb d_IM_sealInto_37 rfl (lv_at hl 2 rfl) ?_
  refine lv_iconst (v := 0) hx hb d_IM_sealInto_38 (by decide) ?_
  have hPc := hP.sub (ws' := [(qs, .inr (4, [.ref gm, .ref gs, .ref gc, .int (u3.1)])), (gm, .inl (cI, 32, .inl (u3.2))), (gs, .inl (cI, 64, .inl sc)), (gc, .inl (cI, 8, .inl ch)), (th, .inl (cI, 8, .inl tg))]) [3, 4, 5, 6, 2] rfl
  have hDc := hD.sub (ws' := [(qs, .inr (4, [.ref gm, .ref gs, .ref gc, .int (u3.1)])), (gm, .inl (cI, 32, .inl (u3.2))), (gs, .inl (cI, 64, .inl sc)), (gc, .inl (cI, 8, .inl ch)), (th, .inl (cI, 8, .inl tg))]) [3, 4, 5, 6, 2] (by decide) rfl
  have hFc := va_free (wc := [(qs, .inr (4, [.ref gm, .ref gs, .ref gc, .int (u3.1)])), (gm, .inl (cI, 32, .inl (u3.2))), (gs, .inl (cI, 64, .inl sc)), (gc, .inl (cI, 8, .inl ch)), (th, .inl (cI, 8, .inl tg))]) hD hS hA [3, 4, 5, 6, 2] rfl
  refine va_callv (va_runV (As := [.ref th, .int (0 : Int32)]) (rest := []) ⟨hx, hb, hml, hown, hts⟩ (c_SH_finish l dC dI cI cJ qs th gm gs gc _ 8 (0 : Int32) (u3.1) (u3.2) sc ch tg (by rw [← hu3]; exact p_cnt _ _ _ _ _ _ (by rw [← hu2]; exact p_row _ _ _ _ _ _ _ _ (by rw [← hu1]; exact p_cnt _ _ _ _ _ _ b24))) (fun x h0 h1 => ix_off 0 8 8 h0 h1 rfl (by decide) (by decide))) ⟨callB_of 2 hts (bc_good gw_229) rfl rfl rfl (hts _ gw_5) (hts _ gw_226) (by decide +kernel) ⟨Nat.le_of_ble_eq_true rfl, Nat.le_of_ble_eq_true rfl⟩, (hts _ gw_227), (hts _ gw_228)⟩ ⟨bc_blind, va_recv (q0 := 3) hK hP (q := (R_SH, F_SH, 4)) rfl rfl, fun U hU hW => ⟨rfl, bc_give hPc hDc hK hE hS hFc U hU hW⟩⟩ rfl rfl hl.1 rfl (lv_room (Nat.le_of_ble_eq_true rfl)) d_IM_sealInto_39 ⟨Nat.le_of_ble_eq_true rfl, Nat.le_of_ble_eq_true rfl⟩) hS (fun q _ h => hFc q h) hFc (fun u t H9 locs ht hvm hp hB hz1 hk1 hS => ?_)
  obtain ⟨hP, hD⟩ := va_join (wr := [(h, .inr (3, [.ref hw])), (hw, .inl (cI, 16, .inl w))]) (w1 := [(qs, .inr (4, [.ref gm, .ref gs, .ref gc, .int (u3.1)])), (gm, .inl (cI, 32, .inl ((f_SH_finish 8 (0 : Int32) (u3.1) (u3.2) sc ch tg).1))), (gs, .inl (cI, 64, .inl ((f_SH_finish 8 (0 : Int32) (u3.1) (u3.2) sc ch tg).2.1))), (gc, .inl (cI, 8, .inl ((f_SH_finish 8 (0 : Int32) (u3.1) (u3.2) sc ch tg).2.2.1))), (th, .inl (cI, 8, .inl ((f_SH_finish 8 (0 : Int32) (u3.1) (u3.2) sc ch tg).2.2.2)))]) hP hD [3, 4, 5, 6, 2] [0, 1] rfl rfl (by decide) (by decide) hk1 hFc (ht ▸ hB.1) hB.2.2
  have hP := hP.sub (ws' := [(h, .inr (3, [.ref hw])), (hw, .inl (cI, 16, .inl w)), (th, .inl (cI, 8, .inl ((f_SH_finish 8 (0 : Int32) (u3.1) (u3.2) sc ch tg).2.2.2))), (qs, .inr (4, [.ref gm, .ref gs, .ref gc, .int (u3.1)])), (gm, .inl (cI, 32, .inl ((f_SH_finish 8 (0 : Int32) (u3.1) (u3.2) sc ch tg).1))), (gs, .inl (cI, 64, .inl ((f_SH_finish 8 (0 : Int32) (u3.1) (u3.2) sc ch tg).2.1))), (gc, .inl (cI, 8, .inl ((f_SH_finish 8 (0 : Int32) (u3.1) (u3.2) sc ch tg).2.2.1)))]) [0, 1, 6, 2, 3, 4, 5] rfl
  have hD := hD.sub (ws' := [(h, .inr (3, [.ref hw])), (hw, .inl (cI, 16, .inl w)), (th, .inl (cI, 8, .inl ((f_SH_finish 8 (0 : Int32) (u3.1) (u3.2) sc ch tg).2.2.2))), (qs, .inr (4, [.ref gm, .ref gs, .ref gc, .int (u3.1)])), (gm, .inl (cI, 32, .inl ((f_SH_finish 8 (0 : Int32) (u3.1) (u3.2) sc ch tg).1))), (gs, .inl (cI, 64, .inl ((f_SH_finish 8 (0 : Int32) (u3.1) (u3.2) sc ch tg).2.1))), (gc, .inl (cI, 8, .inl ((f_SH_finish 8 (0 : Int32) (u3.1) (u3.2) sc ch tg).2.2.1)))]) [0, 1, 6, 2, 3, 4, 5] (by decide) rfl
  generalize H9 = H at hP hS ⊢
  have e0 : (f_IM_sealInto_c3 sg w tg sl ms sc ch u1 u2 u3) = f_IM_sealInto_c4 sg w tg sl ms sc ch u1 u2 u3 (f_SH_finish 8 (0 : Int32) (u3.1) (u3.2) sc ch tg) := by rw [f_IM_sealInto_c3]
  rw [e0]
  generalize hu4 : (f_SH_finish 8 (0 : Int32) (u3.1) (u3.2) sc ch tg) = u4 at hP hD ⊢
  have hP : va_P (dC, dI) classes [(h, .inr (3, [.ref hw])), (hw, .inl (cI, 16, .inl w)), (th, .inl (cI, 8, .inl (u4.2.2.2))), (qs, .inr (4, [.ref gm, .ref gs, .ref gc, .int (u3.1)])), (gm, .inl (cI, 32, .inl (u4.1))), (gs, .inl (cI, 64, .inl (u4.2.1))), (gc, .inl (cI, 8, .inl (u4.2.2.1)))] H := hP
  have hD : va_D A [(h, .inr (3, [.ref hw])), (hw, .inl (cI, 16, .inl w)), (th, .inl (cI, 8, .inl (u4.2.2.2))), (qs, .inr (4, [.ref gm, .ref gs, .ref gc, .int (u3.1)])), (gm, .inl (cI, 32, .inl (u4.1))), (gs, .inl (cI, 64, .inl (u4.2.1))), (gc, .inl (cI, 8, .inl (u4.2.2.1)))] := hD
  have e0 : (f_IM_sealInto_c4 sg w tg sl ms sc ch u1 u2 u3 u4) = ((u4.2.2.2), (u3.1), (u4.1), (u4.2.1), (u4.2.2.1)) := by rw [f_IM_sealInto_c4]
  rw [e0]
  exact W.vret hx hb hr (fun t ht hW => ⟨⟨(), rfl, trivial, by rw [ht]; exact hP, va_K.moved hW.alike hK, hD⟩, hS.F ht⟩) hS.2.2 d_IM_sealInto_42
-- IM_digestInto
theorem d_IM_digestInto_0 : decode prog_4_method_10_code 0 = .ok (.aload_n 2, 1) := by decide +kernel
theorem d_IM_digestInto_1 : decode prog_4_method_10_code 1 = .ok (.invokevirtual 41, 3) := by decide +kernel
theorem d_IM_digestInto_4 : decode prog_4_method_10_code 4 = .ok (.aload_n 2, 1) := by decide +kernel
theorem d_IM_digestInto_5 : decode prog_4_method_10_code 5 = .ok (.aload_n 0, 1) := by decide +kernel
theorem d_IM_digestInto_6 : decode prog_4_method_10_code 6 = .ok (.getfield 9, 3) := by decide +kernel
theorem d_IM_digestInto_9 : decode prog_4_method_10_code 9 = .ok (.iconst 0, 1) := by decide +kernel
theorem d_IM_digestInto_10 : decode prog_4_method_10_code 10 = .ok (.bipush 7, 2) := by decide +kernel
theorem d_IM_digestInto_12 : decode prog_4_method_10_code 12 = .ok (.invokevirtual 50, 3) := by decide +kernel
theorem d_IM_digestInto_15 : decode prog_4_method_10_code 15 = .ok (.aload_n 2, 1) := by decide +kernel
theorem d_IM_digestInto_16 : decode prog_4_method_10_code 16 = .ok (.aload_n 1, 1) := by decide +kernel
theorem d_IM_digestInto_17 : decode prog_4_method_10_code 17 = .ok (.iconst 0, 1) := by decide +kernel
theorem d_IM_digestInto_18 : decode prog_4_method_10_code 18 = .ok (.invokevirtual 54, 3) := by decide +kernel
theorem d_IM_digestInto_21 : decode prog_4_method_10_code 21 = .ok (.return_, 1) := by decide +kernel
def y_IM_digestInto : MethodName := ⟨"BootChain$Image", "digestInto", "([ILBootChain$Sha256;)V"⟩
def ws_IM_digestInto : List Cond := .code y_IM_digestInto prog_4_method_10_code 3 none :: bc_G
def f_IM_digestInto_c2 (w : Nat → Int32) (tg : Nat → Int32) (sl : Int32) (ms : Nat → Int32) (sc : Nat → Int32) (ch : Nat → Int32) (u1 : Int32 × (Nat → Int32)) (u2 : (Nat → Int32) × (Nat → Int32) × (Nat → Int32) × (Nat → Int32)) : (Nat → Int32) × Int32 × (Nat → Int32) × (Nat → Int32) × (Nat → Int32) := ((u2.2.2.2), (u1.1), (u2.1), (u2.2.1), (u2.2.2.1))
def f_IM_digestInto_c1 (w : Nat → Int32) (tg : Nat → Int32) (sl : Int32) (ms : Nat → Int32) (sc : Nat → Int32) (ch : Nat → Int32) (u1 : Int32 × (Nat → Int32)) : (Nat → Int32) × Int32 × (Nat → Int32) × (Nat → Int32) × (Nat → Int32) := f_IM_digestInto_c2 w tg sl ms sc ch u1 (f_SH_finish 8 (0 : Int32) (u1.1) (u1.2) sc ch tg)
def f_IM_digestInto (w : Nat → Int32) (tg : Nat → Int32) (sl : Int32) (ms : Nat → Int32) (sc : Nat → Int32) (ch : Nat → Int32) : (Nat → Int32) × Int32 × (Nat → Int32) × (Nat → Int32) × (Nat → Int32) := f_IM_digestInto_c1 w tg sl ms sc ch (f_SH_addRow 16 (0 : Int32) (7 : Int32) (f_SH_begin sl ms sc ch) ms sc ch w)
set_option maxHeartbeats 4000000 in
set_option maxRecDepth 100000 in
theorem c_IM_digestInto (l : Launch) (dC : Nat → ClassId) (dI : Nat → Nat → Nat) (cI cJ : ClassId) (h th qs hw gm gs gc : Nat) (sz : Nat) (w : Nat → Int32) (tg : Nat → Int32) (sl : Int32) (ms : Nat → Int32) (sc : Nat → Int32) (ch : Nat → Int32) : Met l y_IM_digestInto ws_IM_digestInto ({ frames := 3, cells := 0, slots := 0, locals := 79 } : Room) (va_Pc [.ref h, .ref th, .ref qs] (bc_pre (dC, dI) cI cJ [(h, .inr (3, [.ref hw])), (hw, .inl (cI, 16, .inl w)), (th, .inl (cI, 8, .inl tg)), (qs, .inr (4, [.ref gm, .ref gs, .ref gc, .int sl])), (gm, .inl (cI, 32, .inl ms)), (gs, .inl (cI, 64, .inl sc)), (gc, .inl (cI, 8, .inl ch))] sz)) (va_Qv (fun (_ : Unit) => True) (fun _ => bc_post (dC, dI) cI cJ (va_A [(h, .inr (3, [.ref hw])), (hw, .inl (cI, 16, .inl w)), (th, .inl (cI, 8, .inl tg)), (qs, .inr (4, [.ref gm, .ref gs, .ref gc, .int sl])), (gm, .inl (cI, 32, .inl ms)), (gs, .inl (cI, 64, .inl sc)), (gc, .inl (cI, 8, .inl ch))] sz) [(h, .inr (3, [.ref hw])), (hw, .inl (cI, 16, .inl w)), (th, .inl (cI, 8, .inl (f_IM_digestInto w tg sl ms sc ch).1)), (qs, .inr (4, [.ref gm, .ref gs, .ref gc, .int (f_IM_digestInto w tg sl ms sc ch).2.1])), (gm, .inl (cI, 32, .inl (f_IM_digestInto w tg sl ms sc ch).2.2.1)), (gs, .inl (cI, 64, .inl (f_IM_digestInto w tg sl ms sc ch).2.2.2.1)), (gc, .inl (cI, 8, .inl (f_IM_digestInto w tg sl ms sc ch).2.2.2.2))]) (va_A [(h, .inr (3, [.ref hw])), (hw, .inl (cI, 16, .inl w)), (th, .inl (cI, 8, .inl tg)), (qs, .inr (4, [.ref gm, .ref gs, .ref gc, .int sl])), (gm, .inl (cI, 32, .inl ms)), (gs, .inl (cI, 64, .inl sc)), (gc, .inl (cI, 8, .inl ch))] sz)) 0 0 (va_A [(h, .inr (3, [.ref hw])), (hw, .inl (cI, 16, .inl w)), (th, .inl (cI, 8, .inl tg)), (qs, .inr (4, [.ref gm, .ref gs, .ref gc, .int sl])), (gm, .inl (cI, 32, .inl ms)), (gs, .inl (cI, 64, .inl sc)), (gc, .inl (cI, 8, .inl ch))] sz) := by
  refine Met.ofW (cc := prog_4_method_10_code) (maxL := 3) (ret := none) (by decide) rfl ?_
  intro p e s m args below meth c s₁ B hml hv
  obtain ⟨rfl, hsz, hP, hK, hD0, hE⟩ := hv
  have hx := B.exec
  have hb := B.bytes
  have hr := B.returns
  have hts : ∀ w ∈ bc_G, w.before ([.ref h, .ref th, .ref qs] : List Value).toArray s = true := fun w h => atoms_spec (ws := ws_IM_digestInto) B.pre w (List.mem_cons_of_mem _ h)
  have hown : s.vm.findClass "BootChain$Image" = some m.cls := findClass_of_methodNamed B.named
  have hlocks := B.notSynchronized
  subst hsz
  have hD := hD0.self (sz := s.heap.size)
  generalize hAe : va_A [(h, .inr (3, [.ref hw])), (hw, .inl (cI, 16, .inl w)), (th, .inl (cI, 8, .inl tg)), (qs, .inr (4, [.ref gm, .ref gs, .ref gc, .int sl])), (gm, .inl (cI, 32, .inl ms)), (gs, .inl (cI, 64, .inl sc)), (gc, .inl (cI, 8, .inl ch))] s.heap.size = A at hD hE ⊢
  have hA : ∀ q : Nat, s.heap.size ≤ q → A q := fun q h => by rw [← hAe]; exact Or.inr h
  have hS : va_S A s.heap s.heap [] := va_S.rf
  have hl := lv_entry ([.ref h, .ref th, .ref qs]) (n := 3) (Nat.le_of_ble_eq_true rfl)
  rw [lg_entry_eq]
  generalize (lg_sl ([.ref h, .ref th, .ref qs]) ++ List.replicate (3 - (lg_sl ([.ref h, .ref th, .ref qs])).length) Slot.unset).toArray = ls at hl ⊢
  have hl : lv_has ls 3 [(0, .ref h), (1, .ref th), (2, .ref qs)] := hl
  refine lv_aload_n hx hb d_IM_digestInto_0 rfl (lv_at hl 2 rfl) ?_
  have hPc := hP.sub (ws' := [(qs, .inr (4, [.ref gm, .ref gs, .ref gc, .int sl])), (gm, .inl (cI, 32, .inl ms)), (gs, .inl (cI, 64, .inl sc)), (gc, .inl (cI, 8, .inl ch))]) [3, 4, 5, 6] rfl
  have hDc := hD.sub (ws' := [(qs, .inr (4, [.ref gm, .ref gs, .ref gc, .int sl])), (gm, .inl (cI, 32, .inl ms)), (gs, .inl (cI, 64, .inl sc)), (gc, .inl (cI, 8, .inl ch))]) [3, 4, 5, 6] (by decide) rfl
  have hFc := va_free (wc := [(qs, .inr (4, [.ref gm, .ref gs, .ref gc, .int sl])), (gm, .inl (cI, 32, .inl ms)), (gs, .inl (cI, 64, .inl sc)), (gc, .inl (cI, 8, .inl ch))]) hD hS hA [3, 4, 5, 6] rfl
  refine va_callv (va_runV (As := []) (rest := []) ⟨hx, hb, hml, hown, hts⟩ (c_SH_begin l dC dI cI cJ qs gm gs gc _ sl ms sc ch) ⟨callB_of 0 hts (bc_good gw_213) rfl rfl rfl (hts _ gw_5) (hts _ gw_210) (by decide +kernel) ⟨Nat.le_of_ble_eq_true rfl, Nat.le_of_ble_eq_true rfl⟩, (hts _ gw_211), (hts _ gw_212)⟩ ⟨bc_blind, va_recv (q0 := 3) hK hP (q := (R_SH, F_SH, 4)) rfl rfl, fun U hU hW => ⟨rfl, bc_give hPc hDc hK hE hS hFc U hU hW⟩⟩ rfl rfl hl.1 rfl (lv_room (Nat.le_of_ble_eq_true rfl)) d_IM_digestInto_1 ⟨Nat.le_of_ble_eq_true rfl, Nat.le_of_ble_eq_true rfl⟩) hS (fun q _ h => hFc q h) hFc (fun u t H9 locs ht hvm hp hB hz1 hk1 hS => ?_)
  obtain ⟨hP, hD⟩ := va_join (wr := [(h, .inr (3, [.ref hw])), (hw, .inl (cI, 16, .inl w)), (th, .inl (cI, 8, .inl tg))]) (w1 := [(qs, .inr (4, [.ref gm, .ref gs, .ref gc, .int (f_SH_begin sl ms sc ch)])), (gm, .inl (cI, 32, .inl ms)), (gs, .inl (cI, 64, .inl sc)), (gc, .inl (cI, 8, .inl ch))]) hP hD [3, 4, 5, 6] [0, 1, 2] rfl rfl (by decide) (by decide) hk1 hFc (ht ▸ hB.1) hB.2.2
  have hP := hP.sub (ws' := [(h, .inr (3, [.ref hw])), (hw, .inl (cI, 16, .inl w)), (th, .inl (cI, 8, .inl tg)), (qs, .inr (4, [.ref gm, .ref gs, .ref gc, .int (f_SH_begin sl ms sc ch)])), (gm, .inl (cI, 32, .inl ms)), (gs, .inl (cI, 64, .inl sc)), (gc, .inl (cI, 8, .inl ch))]) [0, 1, 2, 3, 4, 5, 6] rfl
  have hD := hD.sub (ws' := [(h, .inr (3, [.ref hw])), (hw, .inl (cI, 16, .inl w)), (th, .inl (cI, 8, .inl tg)), (qs, .inr (4, [.ref gm, .ref gs, .ref gc, .int (f_SH_begin sl ms sc ch)])), (gm, .inl (cI, 32, .inl ms)), (gs, .inl (cI, 64, .inl sc)), (gc, .inl (cI, 8, .inl ch))]) [0, 1, 2, 3, 4, 5, 6] (by decide) rfl
  generalize H9 = H at hP hS ⊢
  refine lv_aload_n hx hb d_IM_digestInto_4 rfl (lv_at hl 2 rfl) ?_
  refine lv_aload_n hx hb d_IM_digestInto_5 rfl (lv_at hl 0 rfl) ?_
  refine va_get (D := (dC, dI)) (ci := 3) (v := .ref hw) (C := R_IM) (T := F_IM) (N := 1) hx hb hts in_IM hown hK hP 0 rfl rfl 0 (by decide) (hts _ gw_48) (fun _ h9 => h9) rfl d_IM_digestInto_6 ?_
  refine lv_iconst (v := 0) hx hb d_IM_digestInto_9 (by decide) ?_
  refine lv_bipush (v := 7) hx hb d_IM_digestInto_10 (by decide) ?_
  have hPc := hP.sub (ws' := [(qs, .inr (4, [.ref gm, .ref gs, .ref gc, .int (f_SH_begin sl ms sc ch)])), (gm, .inl (cI, 32, .inl ms)), (gs, .inl (cI, 64, .inl sc)), (gc, .inl (cI, 8, .inl ch)), (hw, .inl (cI, 16, .inl w))]) [3, 4, 5, 6, 1] rfl
  have hDc := hD.sub (ws' := [(qs, .inr (4, [.ref gm, .ref gs, .ref gc, .int (f_SH_begin sl ms sc ch)])), (gm, .inl (cI, 32, .inl ms)), (gs, .inl (cI, 64, .inl sc)), (gc, .inl (cI, 8, .inl ch)), (hw, .inl (cI, 16, .inl w))]) [3, 4, 5, 6, 1] (by decide) rfl
  have hFc := va_free (wc := [(qs, .inr (4, [.ref gm, .ref gs, .ref gc, .int (f_SH_begin sl ms sc ch)])), (gm, .inl (cI, 32, .inl ms)), (gs, .inl (cI, 64, .inl sc)), (gc, .inl (cI, 8, .inl ch)), (hw, .inl (cI, 16, .inl w))]) hD hS hA [3, 4, 5, 6, 1] rfl
  refine va_callv (va_runV (As := [.ref hw, .int (0 : Int32), .int (7 : Int32)]) (rest := []) ⟨hx, hb, hml, hown, hts⟩ (c_SH_addRow l dC dI cI cJ qs hw gm gs gc _ 16 (0 : Int32) (7 : Int32) (f_SH_begin sl ms sc ch) ms sc ch w b24 (fun x h0 h1 => ix_off 0 16 7 h0 h1 rfl (by decide) (by decide))) ⟨callB_of 3 hts (bc_good gw_225) rfl rfl rfl (hts _ gw_5) (hts _ gw_222) (by decide +kernel) ⟨Nat.le_of_ble_eq_true rfl, Nat.le_of_ble_eq_true rfl⟩, (hts _ gw_223), (hts _ gw_224)⟩ ⟨bc_blind, va_recv (q0 := 3) hK hP (q := (R_SH, F_SH, 4)) rfl rfl, fun U hU hW => ⟨rfl, bc_give hPc hDc hK hE hS hFc U hU hW⟩⟩ rfl rfl hl.1 rfl (lv_room (Nat.le_of_ble_eq_true rfl)) d_IM_digestInto_12 ⟨Nat.le_of_ble_eq_true rfl, Nat.le_of_ble_eq_true rfl⟩) hS (fun q _ h => hFc q h) hFc (fun u t H9 locs ht hvm hp hB hz1 hk1 hS => ?_)
  obtain ⟨hP, hD⟩ := va_join (wr := [(h, .inr (3, [.ref hw])), (th, .inl (cI, 8, .inl tg))]) (w1 := [(qs, .inr (4, [.ref gm, .ref gs, .ref gc, .int ((f_SH_addRow 16 (0 : Int32) (7 : Int32) (f_SH_begin sl ms sc ch) ms sc ch w).1)])), (gm, .inl (cI, 32, .inl ((f_SH_addRow 16 (0 : Int32) (7 : Int32) (f_SH_begin sl ms sc ch) ms sc ch w).2))), (gs, .inl (cI, 64, .inl sc)), (gc, .inl (cI, 8, .inl ch)), (hw, .inl (cI, 16, .inl w))]) hP hD [3, 4, 5, 6, 1] [0, 2] rfl rfl (by decide) (by decide) hk1 hFc (ht ▸ hB.1) hB.2.2
  have hP := hP.sub (ws' := [(h, .inr (3, [.ref hw])), (hw, .inl (cI, 16, .inl w)), (th, .inl (cI, 8, .inl tg)), (qs, .inr (4, [.ref gm, .ref gs, .ref gc, .int ((f_SH_addRow 16 (0 : Int32) (7 : Int32) (f_SH_begin sl ms sc ch) ms sc ch w).1)])), (gm, .inl (cI, 32, .inl ((f_SH_addRow 16 (0 : Int32) (7 : Int32) (f_SH_begin sl ms sc ch) ms sc ch w).2))), (gs, .inl (cI, 64, .inl sc)), (gc, .inl (cI, 8, .inl ch))]) [0, 6, 1, 2, 3, 4, 5] rfl
  have hD := hD.sub (ws' := [(h, .inr (3, [.ref hw])), (hw, .inl (cI, 16, .inl w)), (th, .inl (cI, 8, .inl tg)), (qs, .inr (4, [.ref gm, .ref gs, .ref gc, .int ((f_SH_addRow 16 (0 : Int32) (7 : Int32) (f_SH_begin sl ms sc ch) ms sc ch w).1)])), (gm, .inl (cI, 32, .inl ((f_SH_addRow 16 (0 : Int32) (7 : Int32) (f_SH_begin sl ms sc ch) ms sc ch w).2))), (gs, .inl (cI, 64, .inl sc)), (gc, .inl (cI, 8, .inl ch))]) [0, 6, 1, 2, 3, 4, 5] (by decide) rfl
  generalize H9 = H at hP hS ⊢
  have e0 : (f_IM_digestInto w tg sl ms sc ch) = f_IM_digestInto_c1 w tg sl ms sc ch (f_SH_addRow 16 (0 : Int32) (7 : Int32) (f_SH_begin sl ms sc ch) ms sc ch w) := by rw [f_IM_digestInto]
  rw [e0]
  generalize hu1 : (f_SH_addRow 16 (0 : Int32) (7 : Int32) (f_SH_begin sl ms sc ch) ms sc ch w) = u1 at hP hD ⊢
  have hP : va_P (dC, dI) classes [(h, .inr (3, [.ref hw])), (hw, .inl (cI, 16, .inl w)), (th, .inl (cI, 8, .inl tg)), (qs, .inr (4, [.ref gm, .ref gs, .ref gc, .int (u1.1)])), (gm, .inl (cI, 32, .inl (u1.2))), (gs, .inl (cI, 64, .inl sc)), (gc, .inl (cI, 8, .inl ch))] H := hP
  have hD : va_D A [(h, .inr (3, [.ref hw])), (hw, .inl (cI, 16, .inl w)), (th, .inl (cI, 8, .inl tg)), (qs, .inr (4, [.ref gm, .ref gs, .ref gc, .int (u1.1)])), (gm, .inl (cI, 32, .inl (u1.2))), (gs, .inl (cI, 64, .inl sc)), (gc, .inl (cI, 8, .inl ch))] := hD
  refine lv_aload_n hx hb d_IM_digestInto_15 rfl (lv_at hl 2 rfl) ?_
  refine lv_aload_n hx hb d_IM_digestInto_16 rfl (lv_at hl 1 rfl) ?_
  refine lv_iconst (v := 0) hx hb d_IM_digestInto_17 (by decide) ?_
  have hPc := hP.sub (ws' := [(qs, .inr (4, [.ref gm, .ref gs, .ref gc, .int (u1.1)])), (gm, .inl (cI, 32, .inl (u1.2))), (gs, .inl (cI, 64, .inl sc)), (gc, .inl (cI, 8, .inl ch)), (th, .inl (cI, 8, .inl tg))]) [3, 4, 5, 6, 2] rfl
  have hDc := hD.sub (ws' := [(qs, .inr (4, [.ref gm, .ref gs, .ref gc, .int (u1.1)])), (gm, .inl (cI, 32, .inl (u1.2))), (gs, .inl (cI, 64, .inl sc)), (gc, .inl (cI, 8, .inl ch)), (th, .inl (cI, 8, .inl tg))]) [3, 4, 5, 6, 2] (by decide) rfl
  have hFc := va_free (wc := [(qs, .inr (4, [.ref gm, .ref gs, .ref gc, .int (u1.1)])), (gm, .inl (cI, 32, .inl (u1.2))), (gs, .inl (cI, 64, .inl sc)), (gc, .inl (cI, 8, .inl ch)), (th, .inl (cI, 8, .inl tg))]) hD hS hA [3, 4, 5, 6, 2] rfl
  refine va_callv (va_runV (As := [.ref th, .int (0 : Int32)]) (rest := []) ⟨hx, hb, hml, hown, hts⟩ (c_SH_finish l dC dI cI cJ qs th gm gs gc _ 8 (0 : Int32) (u1.1) (u1.2) sc ch tg (by rw [← hu1]; exact p_row _ _ _ _ _ _ _ _ b24) (fun x h0 h1 => ix_off 0 8 8 h0 h1 rfl (by decide) (by decide))) ⟨callB_of 2 hts (bc_good gw_229) rfl rfl rfl (hts _ gw_5) (hts _ gw_226) (by decide +kernel) ⟨Nat.le_of_ble_eq_true rfl, Nat.le_of_ble_eq_true rfl⟩, (hts _ gw_227), (hts _ gw_228)⟩ ⟨bc_blind, va_recv (q0 := 3) hK hP (q := (R_SH, F_SH, 4)) rfl rfl, fun U hU hW => ⟨rfl, bc_give hPc hDc hK hE hS hFc U hU hW⟩⟩ rfl rfl hl.1 rfl (lv_room (Nat.le_of_ble_eq_true rfl)) d_IM_digestInto_18 ⟨Nat.le_of_ble_eq_true rfl, Nat.le_of_ble_eq_true rfl⟩) hS (fun q _ h => hFc q h) hFc (fun u t H9 locs ht hvm hp hB hz1 hk1 hS => ?_)
  obtain ⟨hP, hD⟩ := va_join (wr := [(h, .inr (3, [.ref hw])), (hw, .inl (cI, 16, .inl w))]) (w1 := [(qs, .inr (4, [.ref gm, .ref gs, .ref gc, .int (u1.1)])), (gm, .inl (cI, 32, .inl ((f_SH_finish 8 (0 : Int32) (u1.1) (u1.2) sc ch tg).1))), (gs, .inl (cI, 64, .inl ((f_SH_finish 8 (0 : Int32) (u1.1) (u1.2) sc ch tg).2.1))), (gc, .inl (cI, 8, .inl ((f_SH_finish 8 (0 : Int32) (u1.1) (u1.2) sc ch tg).2.2.1))), (th, .inl (cI, 8, .inl ((f_SH_finish 8 (0 : Int32) (u1.1) (u1.2) sc ch tg).2.2.2)))]) hP hD [3, 4, 5, 6, 2] [0, 1] rfl rfl (by decide) (by decide) hk1 hFc (ht ▸ hB.1) hB.2.2
  have hP := hP.sub (ws' := [(h, .inr (3, [.ref hw])), (hw, .inl (cI, 16, .inl w)), (th, .inl (cI, 8, .inl ((f_SH_finish 8 (0 : Int32) (u1.1) (u1.2) sc ch tg).2.2.2))), (qs, .inr (4, [.ref gm, .ref gs, .ref gc, .int (u1.1)])), (gm, .inl (cI, 32, .inl ((f_SH_finish 8 (0 : Int32) (u1.1) (u1.2) sc ch tg).1))), (gs, .inl (cI, 64, .inl ((f_SH_finish 8 (0 : Int32) (u1.1) (u1.2) sc ch tg).2.1))), (gc, .inl (cI, 8, .inl ((f_SH_finish 8 (0 : Int32) (u1.1) (u1.2) sc ch tg).2.2.1)))]) [0, 1, 6, 2, 3, 4, 5] rfl
  have hD := hD.sub (ws' := [(h, .inr (3, [.ref hw])), (hw, .inl (cI, 16, .inl w)), (th, .inl (cI, 8, .inl ((f_SH_finish 8 (0 : Int32) (u1.1) (u1.2) sc ch tg).2.2.2))), (qs, .inr (4, [.ref gm, .ref gs, .ref gc, .int (u1.1)])), (gm, .inl (cI, 32, .inl ((f_SH_finish 8 (0 : Int32) (u1.1) (u1.2) sc ch tg).1))), (gs, .inl (cI, 64, .inl ((f_SH_finish 8 (0 : Int32) (u1.1) (u1.2) sc ch tg).2.1))), (gc, .inl (cI, 8, .inl ((f_SH_finish 8 (0 : Int32) (u1.1) (u1.2) sc ch tg).2.2.1)))]) [0, 1, 6, 2, 3, 4, 5] (by decide) rfl
  generalize H9 = H at hP hS ⊢
  have e0 : (f_IM_digestInto_c1 w tg sl ms sc ch u1) = f_IM_digestInto_c2 w tg sl ms sc ch u1 (f_SH_finish 8 (0 : Int32) (u1.1) (u1.2) sc ch tg) := by rw [f_IM_digestInto_c1]
  rw [e0]
  generalize hu2 : (f_SH_finish 8 (0 : Int32) (u1.1) (u1.2) sc ch tg) = u2 at hP hD ⊢
  have hP : va_P (dC, dI) classes [(h, .inr (3, [.ref hw])), (hw, .inl (cI, 16, .inl w)), (th, .inl (cI, 8, .inl (u2.2.2.2))), (qs, .inr (4, [.ref gm, .ref gs, .ref gc, .int (u1.1)])), (gm, .inl (cI, 32, .inl (u2.1))), (gs, .inl (cI, 64, .inl (u2.2.1))), (gc, .inl (cI, 8, .inl (u2.2.2.1)))] H := hP
  have hD : va_D A [(h, .inr (3, [.ref hw])), (hw, .inl (cI, 16, .inl w)), (th, .inl (cI, 8, .inl (u2.2.2.2))), (qs, .inr (4, [.ref gm, .ref gs, .ref gc, .int (u1.1)])), (gm, .inl (cI, 32, .inl (u2.1))), (gs, .inl (cI, 64, .inl (u2.2.1))), (gc, .inl (cI, 8, .inl (u2.2.2.1)))] := hD
  have e0 : (f_IM_digestInto_c2 w tg sl ms sc ch u1 u2) = ((u2.2.2.2), (u1.1), (u2.1), (u2.2.1), (u2.2.2.1)) := by rw [f_IM_digestInto_c2]
  rw [e0]
  exact W.vret hx hb hr (fun t ht hW => ⟨⟨(), rfl, trivial, by rw [ht]; exact hP, va_K.moved hW.alike hK, hD⟩, hS.F ht⟩) hS.2.2 d_IM_digestInto_21
