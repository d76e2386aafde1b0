-- DR_hasRoomFor
theorem d_DR_hasRoomFor_0 : decode prog_2_method_2_code 0 = .ok (.aload_n 0, 1) := by decide +kernel
theorem d_DR_hasRoomFor_1 : decode prog_2_method_2_code 1 = .ok (.getfield 15, 3) := by decide +kernel
theorem d_DR_hasRoomFor_4 : decode prog_2_method_2_code 4 = .ok (.iload_n 1, 1) := by decide +kernel
theorem d_DR_hasRoomFor_5 : decode prog_2_method_2_code 5 = .ok (.iadd, 1) := by decide +kernel
theorem d_DR_hasRoomFor_6 : decode prog_2_method_2_code 6 = .ok (.bipush 24, 2) := by decide +kernel
theorem d_DR_hasRoomFor_8 : decode prog_2_method_2_code 8 = .ok (.if_icmp .gt 7, 3) := by decide +kernel
theorem d_DR_hasRoomFor_11 : decode prog_2_method_2_code 11 = .ok (.iconst 1, 1) := by decide +kernel
theorem d_DR_hasRoomFor_12 : decode prog_2_method_2_code 12 = .ok (.goto 4, 3) := by decide +kernel
theorem d_DR_hasRoomFor_15 : decode prog_2_method_2_code 15 = .ok (.iconst 0, 1) := by decide +kernel
theorem d_DR_hasRoomFor_16 : decode prog_2_method_2_code 16 = .ok (.ireturn, 1) := by decide +kernel
def y_DR_hasRoomFor : MethodName := ⟨"BootChain$Draft", "hasRoomFor", "(I)Z"⟩
def ws_DR_hasRoomFor : List Cond := .code y_DR_hasRoomFor prog_2_method_2_code 2 (some .boolean) :: bc_G
def f_DR_hasRoomFor (n0 : Int32) (dl : Int32) (w : Nat → Int32) : Int32 := if (24 : Int32) < (dl + n0) then (0 : Int32) else (1 : Int32)
set_option maxHeartbeats 4000000 in
set_option maxRecDepth 100000 in
theorem c_DR_hasRoomFor (l : Launch) (dC : Nat → ClassId) (dI : Nat → Nat → Nat) (cI cJ : ClassId) (h hw : Nat) (sz : Nat) (n0 : Int32) (dl : Int32) (w : Nat → Int32) : Met l y_DR_hasRoomFor ws_DR_hasRoomFor ({ frames := 0, cells := 0, slots := 0, locals := 0 } : Room) (va_Pc [.ref h, .int n0] (bc_pre (dC, dI) cI cJ [(h, .inr (2, [.ref hw, .int dl])), (hw, .inl (cI, 6, .inl w))] sz)) (va_Qi (fun (r : Int32) (_ : Unit) => r = (f_DR_hasRoomFor n0 dl w)) (fun _ => bc_post (dC, dI) cI cJ (va_A [(h, .inr (2, [.ref hw, .int dl])), (hw, .inl (cI, 6, .inl w))] sz) [(h, .inr (2, [.ref hw, .int dl])), (hw, .inl (cI, 6, .inl w))]) (va_A [(h, .inr (2, [.ref hw, .int dl])), (hw, .inl (cI, 6, .inl w))] sz)) 0 0 (va_A [(h, .inr (2, [.ref hw, .int dl])), (hw, .inl (cI, 6, .inl w))] sz) := by
  refine Met.ofW (cc := prog_2_method_2_code) (maxL := 2) (ret := (some .boolean)) (by decide) rfl ?_
  intro p e s m args below meth c s₁ B hml hv
  obtain ⟨rfl, hsz, hP, hK, hD0, hE⟩ := hv
  have hx := B.exec
  have hb := B.bytes
  have hr := B.returns
  have hts : ∀ w ∈ bc_G, w.before ([.ref h, .int n0] : List Value).toArray s = true := fun w h => atoms_spec (ws := ws_DR_hasRoomFor) B.pre w (List.mem_cons_of_mem _ h)
  have hown : s.vm.findClass "BootChain$Draft" = some m.cls := findClass_of_methodNamed B.named
  have hlocks := B.notSynchronized
  subst hsz
  have hD := hD0.self (sz := s.heap.size)
  generalize hAe : va_A [(h, .inr (2, [.ref hw, .int dl])), (hw, .inl (cI, 6, .inl w))] s.heap.size = A at hD hE ⊢
  have hA : ∀ q : Nat, s.heap.size ≤ q → A q := fun q h => by rw [← hAe]; exact Or.inr h
  have hS : va_S A s.heap s.heap [] := va_S.rf
  have hl := lv_entry ([.ref h, .int n0]) (n := 2) (Nat.le_of_ble_eq_true rfl)
  rw [lg_entry_eq]
  generalize (lg_sl ([.ref h, .int n0]) ++ List.replicate (2 - (lg_sl ([.ref h, .int n0])).length) Slot.unset).toArray = ls at hl ⊢
  have hl : lv_has ls 2 [(0, .ref h), (1, .int n0)] := hl
  refine lv_aload_n hx hb d_DR_hasRoomFor_0 rfl (lv_at hl 0 rfl) ?_
  refine va_get (D := (dC, dI)) (ci := 2) (v := .int dl) (C := R_DR) (T := F_DR) (N := 2) hx hb hts in_DR hown hK hP 0 rfl rfl 1 (by decide) (hts _ gw_39) (fun _ h9 => h9) rfl d_DR_hasRoomFor_1 ?_
  refine lv_iload_n hx hb d_DR_hasRoomFor_4 rfl (lv_at hl 1 rfl) ?_
  refine lv_iadd hx hb d_DR_hasRoomFor_5 ?_
  refine lv_bipush (v := 24) hx hb d_DR_hasRoomFor_6 (by decide) ?_
  refine lv_icmp_gt (tgt := 15) hx hb d_DR_hasRoomFor_8 (by decide) (fun h2 => ?_) (fun h2 => ?_)
  · refine lv_iconst (v := 0) hx hb d_DR_hasRoomFor_15 (by decide) ?_
    have e0 : (f_DR_hasRoomFor n0 dl w) = (0 : Int32) := by rw [f_DR_hasRoomFor, if_pos h2]
    rw [e0]
    exact W.zret (v := (0 : Int32)) (ty := .boolean) hx hb hr (rfl) (fun t ht hW => ⟨⟨(0 : Int32), (), rfl, rfl, by rw [ht]; exact hP, va_K.moved hW.alike hK, hD⟩, hS.F ht⟩) hS.2.2 d_DR_hasRoomFor_16
  · refine lv_iconst (v := 1) hx hb d_DR_hasRoomFor_11 (by decide) ?_
    refine lv_goto (tgt := 16) hx hb d_DR_hasRoomFor_12 (by decide) ?_
    have e0 : (f_DR_hasRoomFor n0 dl w) = (1 : Int32) := by rw [f_DR_hasRoomFor, if_neg h2]
    rw [e0]
    exact W.zret (v := (1 : Int32)) (ty := .boolean) hx hb hr (rfl) (fun t ht hW => ⟨⟨(1 : Int32), (), rfl, rfl, by rw [ht]; exact hP, va_K.moved hW.alike hK, hD⟩, hS.F ht⟩) hS.2.2 d_DR_hasRoomFor_16
-- DR_clear
theorem d_DR_clear_0 : decode prog_2_method_4_code 0 = .ok (.aload_n 0, 1) := by decide +kernel
theorem d_DR_clear_1 : decode prog_2_method_4_code 1 = .ok (.iconst 0, 1) := by decide +kernel
theorem d_DR_clear_2 : decode prog_2_method_4_code 2 = .ok (.putfield 15, 3) := by decide +kernel
theorem d_DR_clear_5 : decode prog_2_method_4_code 5 = .ok (.iconst 0, 1) := by decide +kernel
theorem d_DR_clear_6 : decode prog_2_method_4_code 6 = .ok (.istore_n 1, 1) := by decide +kernel
theorem d_DR_clear_7 : decode prog_2_method_4_code 7 = .ok (.iload_n 1, 1) := by decide +kernel
theorem d_DR_clear_8 : decode prog_2_method_4_code 8 = .ok (.aload_n 0, 1) := by decide +kernel
theorem d_DR_clear_9 : decode prog_2_method_4_code 9 = .ok (.getfield 9, 3) := by decide +kernel
theorem d_DR_clear_12 : decode prog_2_method_4_code 12 = .ok (.arraylength, 1) := by decide +kernel
theorem d_DR_clear_13 : decode prog_2_method_4_code 13 = .ok (.if_icmp .ge 16, 3) := by decide +kernel
theorem d_DR_clear_16 : decode prog_2_method_4_code 16 = .ok (.aload_n 0, 1) := by decide +kernel
theorem d_DR_clear_17 : decode prog_2_method_4_code 17 = .ok (.getfield 9, 3) := by decide +kernel
theorem d_DR_clear_20 : decode prog_2_method_4_code 20 = .ok (.iload_n 1, 1) := by decide +kernel
theorem d_DR_clear_21 : decode prog_2_method_4_code 21 = .ok (.iconst 0, 1) := by decide +kernel
theorem d_DR_clear_22 : decode prog_2_method_4_code 22 = .ok (.iastore, 1) := by decide +kernel
theorem d_DR_clear_23 : decode prog_2_method_4_code 23 = .ok (.iinc 1 1, 3) := by decide +kernel
theorem d_DR_clear_26 : decode prog_2_method_4_code 26 = .ok (.goto (-19), 3) := by decide +kernel
theorem d_DR_clear_29 : decode prog_2_method_4_code 29 = .ok (.return_, 1) := by decide +kernel
def y_DR_clear : MethodName := ⟨"BootChain$Draft", "clear", "()V"⟩
def ws_DR_clear : List Cond := .code y_DR_clear prog_2_method_4_code 2 none :: bc_G
def f_DR_clear_7 (dl : Int32) (w : Nat → Int32) : Nat → Int32 → Int32 → (Nat → Int32) → Int32 × (Nat → Int32)
  | 0, x1, y0_1, y1 => (y0_1, y1)
  | n + 1, x1, y0_1, y1 => if (6 : Int32) ≤ x1 then (y0_1, y1) else f_DR_clear_7 dl w n (x1 + (1 : Int32)) y0_1 (upd y1 (x1).toNatClampNeg (0 : Int32))
def f_DR_clear (dl : Int32) (w : Nat → Int32) : Int32 × (Nat → Int32) := f_DR_clear_7 dl w 7 (0 : Int32) (0 : Int32) w
set_option maxHeartbeats 4000000 in
set_option maxRecDepth 100000 in
theorem c_DR_clear (l : Launch) (dC : Nat → ClassId) (dI : Nat → Nat → Nat) (cI cJ : ClassId) (h hw : Nat) (sz : Nat) (dl : Int32) (w : Nat → Int32) : Met l y_DR_clear ws_DR_clear ({ frames := 0, cells := 0, slots := 0, locals := 0 } : Room) (va_Pc [.ref h] (bc_pre (dC, dI) cI cJ [(h, .inr (2, [.ref hw, .int dl])), (hw, .inl (cI, 6, .inl w))] sz)) (va_Qv (fun (_ : Unit) => True) (fun _ => bc_post (dC, dI) cI cJ (va_A [(h, .inr (2, [.ref hw, .int dl])), (hw, .inl (cI, 6, .inl w))] sz) [(h, .inr (2, [.ref hw, .int (f_DR_clear dl w).1])), (hw, .inl (cI, 6, .inl (f_DR_clear dl w).2))]) (va_A [(h, .inr (2, [.ref hw, .int dl])), (hw, .inl (cI, 6, .inl w))] sz)) 0 0 (va_A [(h, .inr (2, [.ref hw, .int dl])), (hw, .inl (cI, 6, .inl w))] sz) := by
  refine Met.ofW (cc := prog_2_method_4_code) (maxL := 2) (ret := none) (by decide) rfl ?_
  intro p e s m args below meth c s₁ B hml hv
  obtain ⟨rfl, hsz, hP, hK, hD0, hE⟩ := hv
  have hx := B.exec
  have hb := B.bytes
  have hr := B.returns
  have hts : ∀ w ∈ bc_G, w.before ([.ref h] : List Value).toArray s = true := fun w h => atoms_spec (ws := ws_DR_clear) B.pre w (List.mem_cons_of_mem _ h)
  have hown : s.vm.findClass "BootChain$Draft" = some m.cls := findClass_of_methodNamed B.named
  have hlocks := B.notSynchronized
  subst hsz
  have hD := hD0.self (sz := s.heap.size)
  generalize hAe : va_A [(h, .inr (2, [.ref hw, .int dl])), (hw, .inl (cI, 6, .inl w))] s.heap.size = A at hD hE ⊢
  have hA : ∀ q : Nat, s.heap.size ≤ q → A q := fun q h => by rw [← hAe]; exact Or.inr h
  have hS : va_S A s.heap s.heap [] := va_S.rf
  have lp_7 : ∀ (n : Nat) (x1 : Int32) (y0_1 : Int32) (y1 : Nat → Int32) (H : Heap) (locs : List Loc) (ls : Array Slot), 0 ≤ x1 ∧ x1 ≤ 6 → ((6 : Int32).toInt - x1.toInt).toNat < n → lv_has ls 2 [(0, .ref h), (1, .int x1)] → va_P (dC, dI) classes [(h, .inr (2, [.ref hw, .int y0_1])), (hw, .inl (cI, 6, .inl y1))] H → va_D A [(h, .inr (2, [.ref hw, .int y0_1])), (hw, .inl (cI, 6, .inl y1))] → va_S A s.heap H locs → W p l e (headSpec ws_DR_clear ({ frames := 0, cells := 0, slots := 0, locals := 0 } : Room)).room s m ([.ref h] : List Value).toArray below meth c H locs 0 0 (MQ below (va_Qv (fun (_ : Unit) => True) (fun _ => bc_post (dC, dI) cI cJ A [(h, .inr (2, [.ref hw, .int (f_DR_clear_7 dl w n x1 y0_1 y1).1])), (hw, .inl (cI, 6, .inl (f_DR_clear_7 dl w n x1 y0_1 y1).2))]) A) ([.ref h] : List Value).toArray s 0 0 A) (F0 m 7 ls []) := by
    intro n
    induction n with
    | zero => intro x1 y0_1 y1 H locs ls hI hm; exact absurd hm (Nat.not_lt_zero _)
    | succ n ih =>
      intro x1 y0_1 y1 H locs ls hI hm hl hP hD hS
      refine lv_iload_n hx hb d_DR_clear_7 rfl (lv_at hl 1 rfl) ?_
      refine lv_aload_n hx hb d_DR_clear_8 rfl (lv_at hl 0 rfl) ?_
      refine va_get (D := (dC, dI)) (ci := 2) (v := .ref hw) (C := R_DR) (T := F_DR) (N := 2) hx hb hts in_DR hown hK hP 0 rfl rfl 0 (by decide) (hts _ gw_38) (fun _ h9 => h9) rfl d_DR_clear_9 ?_
      refine va_alen (v := 6) hx hb hK hP 1 0 rfl rfl rfl d_DR_clear_12 ?_
      refine lv_icmp_ge (tgt := 29) hx hb d_DR_clear_13 (by decide) (fun h2 => ?_) (fun h2 => ?_)
      · have e0 : (f_DR_clear_7 dl w (n + 1) x1 y0_1 y1) = (y0_1, y1) := by rw [f_DR_clear_7, if_pos h2]
        rw [e0]
        exact W.vret hx hb hr (fun t ht hW => ⟨⟨(), rfl, trivial, by rw [ht]; exact hP, va_K.moved hW.alike hK, hD⟩, hS.F ht⟩) hS.2.2 d_DR_clear_29
      · refine lv_aload_n hx hb d_DR_clear_16 rfl (lv_at hl 0 rfl) ?_
        refine va_get (D := (dC, dI)) (ci := 2) (v := .ref hw) (C := R_DR) (T := F_DR) (N := 2) hx hb hts in_DR hown hK hP 0 rfl rfl 0 (by decide) (hts _ gw_38) (fun _ h9 => h9) rfl d_DR_clear_17 ?_
        refine lv_iload_n hx hb d_DR_clear_20 rfl (lv_at hl 1 rfl) ?_
        refine lv_iconst (v := 0) hx hb d_DR_clear_21 (by decide) ?_
        refine va_iast hx hb hK hP hD hS 1 0 rfl rfl (by exact ix_lt 6 hI.1 (by assumption) rfl (by decide)) d_DR_clear_22 (fun H locs hP hD hS => ?_)
        have hP : va_P (dC, dI) classes [(h, .inr (2, [.ref hw, .int y0_1])), (hw, .inl (cI, 6, .inl (upd y1 (x1).toNatClampNeg (0 : Int32))))] H := hP
        have hD : va_D A [(h, .inr (2, [.ref hw, .int y0_1])), (hw, .inl (cI, 6, .inl (upd y1 (x1).toNatClampNeg (0 : Int32))))] := hD
        refine lv_iinc (k := 1) (v := (x1 + (1 : Int32))) (lv' := [(1, .int (x1 + (1 : Int32))), (0, .ref h)]) hx hb d_DR_clear_23 hl rfl rfl (by decide) rfl (fun ls hl => ?_)
        refine lv_goto (tgt := 7) hx hb d_DR_clear_26 (by decide) ?_
        have e0 : (f_DR_clear_7 dl w (n + 1) x1 y0_1 y1) = f_DR_clear_7 dl w n (x1 + (1 : Int32)) y0_1 (upd y1 (x1).toNatClampNeg (0 : Int32)) := by rw [f_DR_clear_7, if_neg h2]
        rw [e0]
        exact ih (x1 + (1 : Int32)) y0_1 (upd y1 (x1).toNatClampNeg (0 : Int32)) _ _ ls (lp_up hI.1 (by assumption)).1 (lp_ms hI.1 (by assumption) hm) (lv_sub hl [1, 0] rfl) hP hD hS
  have hl := lv_entry ([.ref h]) (n := 2) (Nat.le_of_ble_eq_true rfl)
  rw [lg_entry_eq]
  generalize (lg_sl ([.ref h]) ++ List.replicate (2 - (lg_sl ([.ref h])).length) Slot.unset).toArray = ls at hl ⊢
  have hl : lv_has ls 2 [(0, .ref h)] := hl
  refine lv_aload_n hx hb d_DR_clear_0 rfl (lv_at hl 0 rfl) ?_
  refine lv_iconst (v := 0) hx hb d_DR_clear_1 (by decide) ?_
  refine va_put (D := (dC, dI)) (ci := 2) (v := .int (0 : Int32)) (ty := .int) (C := R_DR) (T := F_DR) (N := 2) hx hb hts in_DR t_DR t_DR_ok n_DR hown hK hP hD hS 0 rfl rfl 1 (by decide) (hts _ gw_39) (fun _ h9 => h9) rfl (by decide +kernel) rfl rfl (Nat.le_of_ble_eq_true rfl) d_DR_clear_2 (fun H locs hP hD hS => ?_)
  have hP : va_P (dC, dI) classes [(h, .inr (2, [.ref hw, .int (0 : Int32)])), (hw, .inl (cI, 6, .inl w))] H := hP
  have hD : va_D A [(h, .inr (2, [.ref hw, .int (0 : Int32)])), (hw, .inl (cI, 6, .inl w))] := hD
  refine lv_iconst (v := 0) hx hb d_DR_clear_5 (by decide) ?_
  refine lv_istore_n (lv' := [(1, .int (0 : Int32)), (0, .ref h)]) hx hb d_DR_clear_6 rfl hl (by decide) rfl (fun ls hl => ?_)
  have e0 : (f_DR_clear dl w) = f_DR_clear_7 dl w 7 (0 : Int32) (0 : Int32) w := by rw [f_DR_clear]
  rw [e0]
  exact lp_7 7 (0 : Int32) (0 : Int32) w _ _ ls ⟨by decide, by decide⟩ (by decide) (lv_sub hl [1, 0] rfl) hP hD hS
-- DR_append
theorem d_DR_append_0 : decode prog_2_method_3_code 0 = .ok (.iload_n 3, 1) := by decide +kernel
theorem d_DR_append_1 : decode prog_2_method_3_code 1 = .ok (.iconst 1, 1) := by decide +kernel
theorem d_DR_append_2 : decode prog_2_method_3_code 2 = .ok (.isub, 1) := by decide +kernel
theorem d_DR_append_3 : decode prog_2_method_3_code 3 = .ok (.istore 4, 2) := by decide +kernel
theorem d_DR_append_5 : decode prog_2_method_3_code 5 = .ok (.iload 4, 2) := by decide +kernel
theorem d_DR_append_7 : decode prog_2_method_3_code 7 = .ok (.ifCond .lt 71, 3) := by decide +kernel
theorem d_DR_append_10 : decode prog_2_method_3_code 10 = .ok (.aload_n 0, 1) := by decide +kernel
theorem d_DR_append_11 : decode prog_2_method_3_code 11 = .ok (.getfield 15, 3) := by decide +kernel
theorem d_DR_append_14 : decode prog_2_method_3_code 14 = .ok (.bipush 24, 2) := by decide +kernel
theorem d_DR_append_16 : decode prog_2_method_3_code 16 = .ok (.if_icmp .ge 62, 3) := by decide +kernel
theorem d_DR_append_19 : decode prog_2_method_3_code 19 = .ok (.lload_n 1, 1) := by decide +kernel
theorem d_DR_append_20 : decode prog_2_method_3_code 20 = .ok (.bipush 8, 2) := by decide +kernel
theorem d_DR_append_22 : decode prog_2_method_3_code 22 = .ok (.iload 4, 2) := by decide +kernel
theorem d_DR_append_24 : decode prog_2_method_3_code 24 = .ok (.imul, 1) := by decide +kernel
theorem d_DR_append_25 : decode prog_2_method_3_code 25 = .ok (.lushr, 1) := by decide +kernel
theorem d_DR_append_26 : decode prog_2_method_3_code 26 = .ok (.l2i, 1) := by decide +kernel
theorem d_DR_append_27 : decode prog_2_method_3_code 27 = .ok (.sipush 255, 3) := by decide +kernel
theorem d_DR_append_30 : decode prog_2_method_3_code 30 = .ok (.iand, 1) := by decide +kernel
theorem d_DR_append_31 : decode prog_2_method_3_code 31 = .ok (.istore 5, 2) := by decide +kernel
theorem d_DR_append_33 : decode prog_2_method_3_code 33 = .ok (.aload_n 0, 1) := by decide +kernel
theorem d_DR_append_34 : decode prog_2_method_3_code 34 = .ok (.getfield 9, 3) := by decide +kernel
theorem d_DR_append_37 : decode prog_2_method_3_code 37 = .ok (.aload_n 0, 1) := by decide +kernel
theorem d_DR_append_38 : decode prog_2_method_3_code 38 = .ok (.getfield 15, 3) := by decide +kernel
theorem d_DR_append_41 : decode prog_2_method_3_code 41 = .ok (.iconst 4, 1) := by decide +kernel
theorem d_DR_append_42 : decode prog_2_method_3_code 42 = .ok (.idiv, 1) := by decide +kernel
theorem d_DR_append_43 : decode prog_2_method_3_code 43 = .ok (.dup2, 1) := by decide +kernel
theorem d_DR_append_44 : decode prog_2_method_3_code 44 = .ok (.iaload, 1) := by decide +kernel
theorem d_DR_append_45 : decode prog_2_method_3_code 45 = .ok (.iload 5, 2) := by decide +kernel
theorem d_DR_append_47 : decode prog_2_method_3_code 47 = .ok (.bipush 24, 2) := by decide +kernel
theorem d_DR_append_49 : decode prog_2_method_3_code 49 = .ok (.bipush 8, 2) := by decide +kernel
theorem d_DR_append_51 : decode prog_2_method_3_code 51 = .ok (.aload_n 0, 1) := by decide +kernel
theorem d_DR_append_52 : decode prog_2_method_3_code 52 = .ok (.getfield 15, 3) := by decide +kernel
theorem d_DR_append_55 : decode prog_2_method_3_code 55 = .ok (.iconst 4, 1) := by decide +kernel
theorem d_DR_append_56 : decode prog_2_method_3_code 56 = .ok (.irem, 1) := by decide +kernel
theorem d_DR_append_57 : decode prog_2_method_3_code 57 = .ok (.imul, 1) := by decide +kernel
theorem d_DR_append_58 : decode prog_2_method_3_code 58 = .ok (.isub, 1) := by decide +kernel
theorem d_DR_append_59 : decode prog_2_method_3_code 59 = .ok (.ishl, 1) := by decide +kernel
theorem d_DR_append_60 : decode prog_2_method_3_code 60 = .ok (.ior, 1) := by decide +kernel
theorem d_DR_append_61 : decode prog_2_method_3_code 61 = .ok (.iastore, 1) := by decide +kernel
theorem d_DR_append_62 : decode prog_2_method_3_code 62 = .ok (.aload_n 0, 1) := by decide +kernel
theorem d_DR_append_63 : decode prog_2_method_3_code 63 = .ok (.dup, 1) := by decide +kernel
theorem d_DR_append_64 : decode prog_2_method_3_code 64 = .ok (.getfield 15, 3) := by decide +kernel
theorem d_DR_append_67 : decode prog_2_method_3_code 67 = .ok (.iconst 1, 1) := by decide +kernel
theorem d_DR_append_68 : decode prog_2_method_3_code 68 = .ok (.iadd, 1) := by decide +kernel
theorem d_DR_append_69 : decode prog_2_method_3_code 69 = .ok (.putfield 15, 3) := by decide +kernel
theorem d_DR_append_72 : decode prog_2_method_3_code 72 = .ok (.iinc 4 (-1), 3) := by decide +kernel
theorem d_DR_append_75 : decode prog_2_method_3_code 75 = .ok (.goto (-70), 3) := by decide +kernel
theorem d_DR_append_78 : decode prog_2_method_3_code 78 = .ok (.return_, 1) := by decide +kernel
def y_DR_append : MethodName := ⟨"BootChain$Draft", "append", "(JI)V"⟩
def ws_DR_append : List Cond := .code y_DR_append prog_2_method_3_code 6 none :: bc_G
def f_DR_append_5 (bb : Int64) (n0 : Int32) (dl : Int32) (w : Nat → Int32) : Nat → Int32 → Int32 → (Nat → Int32) → Int32 × (Nat → Int32)
  | 0, x4, y0_1, y1 => (y0_1, y1)
  | n + 1, x4, y0_1, y1 => if x4 < 0 then (y0_1, y1) else if (24 : Int32) ≤ y0_1 then (y0_1, y1) else f_DR_append_5 bb n0 dl w n (x4 + (-1 : Int32)) (y0_1 + (1 : Int32)) (upd y1 ((y0_1 / (4 : Int32))).toNatClampNeg ((y1 ((y0_1 / (4 : Int32))).toNatClampNeg) ||| (((((jul bb ((8 : Int32) * x4))).toInt32) &&& (255 : Int32)) <<< (((24 : Int32) - ((8 : Int32) * (y0_1 - y0_1 / (4 : Int32) * (4 : Int32)))) &&& 31))))
def f_DR_append (bb : Int64) (n0 : Int32) (dl : Int32) (w : Nat → Int32) : Int32 × (Nat → Int32) := f_DR_append_5 bb n0 dl w 25 (n0 - (1 : Int32)) dl w
set_option maxHeartbeats 4000000 in
set_option maxRecDepth 100000 in
theorem c_DR_append (l : Launch) (dC : Nat → ClassId) (dI : Nat → Nat → Nat) (cI cJ : ClassId) (h hw : Nat) (sz : Nat) (bb : Int64) (n0 : Int32) (dl : Int32) (w : Nat → Int32) (hl0 : 0 ≤ dl) : Met l y_DR_append ws_DR_append ({ frames := 0, cells := 0, slots := 0, locals := 0 } : Room) (va_Pc [.ref h, .long bb, .int n0] (bc_pre (dC, dI) cI cJ [(h, .inr (2, [.ref hw, .int dl])), (hw, .inl (cI, 6, .inl w))] sz)) (va_Qv (fun (_ : Unit) => True) (fun _ => bc_post (dC, dI) cI cJ (va_A [(h, .inr (2, [.ref hw, .int dl])), (hw, .inl (cI, 6, .inl w))] sz) [(h, .inr (2, [.ref hw, .int (f_DR_append bb n0 dl w).1])), (hw, .inl (cI, 6, .inl (f_DR_append bb n0 dl w).2))]) (va_A [(h, .inr (2, [.ref hw, .int dl])), (hw, .inl (cI, 6, .inl w))] sz)) 0 0 (va_A [(h, .inr (2, [.ref hw, .int dl])), (hw, .inl (cI, 6, .inl w))] sz) := by
  refine Met.ofW (cc := prog_2_method_3_code) (maxL := 6) (ret := none) (by decide) rfl ?_
  intro p e s m args below meth c s₁ B hml hv
  obtain ⟨rfl, hsz, hP, hK, hD0, hE⟩ := hv
  have hx := B.exec
  have hb := B.bytes
  have hr := B.returns
  have hts : ∀ w ∈ bc_G, w.before ([.ref h, .long bb, .int n0] : List Value).toArray s = true := fun w h => atoms_spec (ws := ws_DR_append) B.pre w (List.mem_cons_of_mem _ h)
  have hown : s.vm.findClass "BootChain$Draft" = some m.cls := findClass_of_methodNamed B.named
  have hlocks := B.notSynchronized
  subst hsz
  have hD := hD0.self (sz := s.heap.size)
  generalize hAe : va_A [(h, .inr (2, [.ref hw, .int dl])), (hw, .inl (cI, 6, .inl w))] s.heap.size = A at hD hE ⊢
  have hA : ∀ q : Nat, s.heap.size ≤ q → A q := fun q h => by rw [← hAe]; exact Or.inr h
  have hS : va_S A s.heap s.heap [] := va_S.rf
  have lp_5 : ∀ (n : Nat) (x4 : Int32) (y0_1 : Int32) (y1 : Nat → Int32) (H : Heap) (locs : List Loc) (ls : Array Slot), 0 ≤ y0_1 → ((24 : Int32).toInt - y0_1.toInt).toNat < n → lv_has ls 6 [(0, .ref h), (1, .long bb), (4, .int x4)] → va_P (dC, dI) classes [(h, .inr (2, [.ref hw, .int y0_1])), (hw, .inl (cI, 6, .inl y1))] H → va_D A [(h, .inr (2, [.ref hw, .int y0_1])), (hw, .inl (cI, 6, .inl y1))] → va_S A s.heap H locs → W p l e (headSpec ws_DR_append ({ frames := 0, cells := 0, slots := 0, locals := 0 } : Room)).room s m ([.ref h, .long bb, .int n0] : List Value).toArray below meth c H locs 0 0 (MQ below (va_Qv (fun (_ : Unit) => True) (fun _ => bc_post (dC, dI) cI cJ A [(h, .inr (2, [.ref hw, .int (f_DR_append_5 bb n0 dl w n x4 y0_1 y1).1])), (hw, .inl (cI, 6, .inl (f_DR_append_5 bb n0 dl w n x4 y0_1 y1).2))]) A) ([.ref h, .long bb, .int n0] : List Value).toArray s 0 0 A) (F0 m 5 ls []) := by
    intro n
    induction n with
    | zero => intro x4 y0_1 y1 H locs ls hI hm; exact absurd hm (Nat.not_lt_zero _)
    | succ n ih =>
      intro x4 y0_1 y1 H locs ls hI hm hl hP hD hS
      refine lv_iload hx hb d_DR_append_5 (lv_at hl 2 rfl) ?_
      refine lv_if_lt (tgt := 78) hx hb d_DR_append_7 (by decide) (fun h3 => ?_) (fun h3 => ?_)
      · have e0 : (f_DR_append_5 bb n0 dl w (n + 1) x4 y0_1 y1) = (y0_1, y1) := by rw [f_DR_append_5, if_pos h3]
        rw [e0]
        exact W.vret hx hb hr (fun t ht hW => ⟨⟨(), rfl, trivial, by rw [ht]; exact hP, va_K.moved hW.alike hK, hD⟩, hS.F ht⟩) hS.2.2 d_DR_append_78
      · refine lv_aload_n hx hb d_DR_append_10 rfl (lv_at hl 0 rfl) ?_
        refine va_get (D := (dC, dI)) (ci := 2) (v := .int y0_1) (C := R_DR) (T := F_DR) (N := 2) hx hb hts in_DR hown hK hP 0 rfl rfl 1 (by decide) (hts _ gw_39) (fun _ h9 => h9) rfl d_DR_append_11 ?_
        refine lv_bipush (v := 24) hx hb d_DR_append_14 (by decide) ?_
        refine lv_icmp_ge (tgt := 78) hx hb d_DR_append_16 (by decide) (fun h4 => ?_) (fun h4 => ?_)
        · have e0 : (f_DR_append_5 bb n0 dl w (n + 1) x4 y0_1 y1) = (y0_1, y1) := by rw [f_DR_append_5, if_neg h3, if_pos h4]
          rw [e0]
          exact W.vret hx hb hr (fun t ht hW => ⟨⟨(), rfl, trivial, by rw [ht]; exact hP, va_K.moved hW.alike hK, hD⟩, hS.F ht⟩) hS.2.2 d_DR_append_78
        · refine lv_lload_n hx hb d_DR_append_19 rfl (lv_at hl 1 rfl) ?_
          refine lv_bipush (v := 8) hx hb d_DR_append_20 (by decide) ?_
          refine lv_iload hx hb d_DR_append_22 (lv_at hl 2 rfl) ?_
          refine lv_imul hx hb d_DR_append_24 ?_
          refine lv_lushr (v := (jul bb ((8 : Int32) * x4))) hx hb d_DR_append_25 rfl ?_
          refine lv_l2i (v := (((jul bb ((8 : Int32) * x4))).toInt32)) hx hb d_DR_append_26 rfl ?_
          refine lv_sipush (v := 255) hx hb d_DR_append_27 (by decide) ?_
          refine lv_iand hx hb d_DR_append_30 ?_
          refine lv_istore (lv' := [(5, .int ((((jul bb ((8 : Int32) * x4))).toInt32) &&& (255 : Int32))), (0, .ref h), (1, .long bb), (4, .int x4)]) hx hb d_DR_append_31 hl (by decide) rfl (fun ls hl => ?_)
          refine lv_aload_n hx hb d_DR_append_33 rfl (lv_at hl 1 rfl) ?_
          refine va_get (D := (dC, dI)) (ci := 2) (v := .ref hw) (C := R_DR) (T := F_DR) (N := 2) hx hb hts in_DR hown hK hP 0 rfl rfl 0 (by decide) (hts _ gw_38) (fun _ h9 => h9) rfl d_DR_append_34 ?_
          refine lv_aload_n hx hb d_DR_append_37 rfl (lv_at hl 1 rfl) ?_
          refine va_get (D := (dC, dI)) (ci := 2) (v := .int y0_1) (C := R_DR) (T := F_DR) (N := 2) hx hb hts in_DR hown hK hP 0 rfl rfl 1 (by decide) (hts _ gw_39) (fun _ h9 => h9) rfl d_DR_append_38 ?_
          refine lv_iconst (v := 4) hx hb d_DR_append_41 (by decide) ?_
          refine lv_idiv hx hb d_DR_append_42 (by decide) ?_
          refine lv_dup2_11 hx hb d_DR_append_43 rfl rfl ?_
          refine va_iald hx hb hK hP 1 0 rfl rfl (by exact ix_d4 hI (by assumption)) d_DR_append_44 ?_
          refine lv_iload hx hb d_DR_append_45 (lv_at hl 0 rfl) ?_
          refine lv_bipush (v := 24) hx hb d_DR_append_47 (by decide) ?_
          refine lv_bipush (v := 8) hx hb d_DR_append_49 (by decide) ?_
          refine lv_aload_n hx hb d_DR_append_51 rfl (lv_at hl 1 rfl) ?_
          refine va_get (D := (dC, dI)) (ci := 2) (v := .int y0_1) (C := R_DR) (T := F_DR) (N := 2) hx hb hts in_DR hown hK hP 0 rfl rfl 1 (by decide) (hts _ gw_39) (fun _ h9 => h9) rfl d_DR_append_52 ?_
          refine lv_iconst (v := 4) hx hb d_DR_append_55 (by decide) ?_
          refine lv_irem hx hb d_DR_append_56 (by decide) ?_
          refine lv_imul hx hb d_DR_append_57 ?_
          refine lv_isub hx hb d_DR_append_58 ?_
          refine lv_ishl hx hb d_DR_append_59 ?_
          refine lv_ior hx hb d_DR_append_60 ?_
          refine va_iast hx hb hK hP hD hS 1 0 rfl rfl (by exact ix_d4 hI (by assumption)) d_DR_append_61 (fun H locs hP hD hS => ?_)
          have hP : va_P (dC, dI) classes [(h, .inr (2, [.ref hw, .int y0_1])), (hw, .inl (cI, 6, .inl (upd y1 ((y0_1 / (4 : Int32))).toNatClampNeg ((y1 ((y0_1 / (4 : Int32))).toNatClampNeg) ||| (((((jul bb ((8 : Int32) * x4))).toInt32) &&& (255 : Int32)) <<< (((24 : Int32) - ((8 : Int32) * (y0_1 - y0_1 / (4 : Int32) * (4 : Int32)))) &&& 31))))))] H := hP
          have hD : va_D A [(h, .inr (2, [.ref hw, .int y0_1])), (hw, .inl (cI, 6, .inl (upd y1 ((y0_1 / (4 : Int32))).toNatClampNeg ((y1 ((y0_1 / (4 : Int32))).toNatClampNeg) ||| (((((jul bb ((8 : Int32) * x4))).toInt32) &&& (255 : Int32)) <<< (((24 : Int32) - ((8 : Int32) * (y0_1 - y0_1 / (4 : Int32) * (4 : Int32)))) &&& 31))))))] := hD
          refine lv_aload_n hx hb d_DR_append_62 rfl (lv_at hl 1 rfl) ?_
          refine lv_dup hx hb d_DR_append_63 rfl ?_
          refine va_get (D := (dC, dI)) (ci := 2) (v := .int y0_1) (C := R_DR) (T := F_DR) (N := 2) hx hb hts in_DR hown hK hP 0 rfl rfl 1 (by decide) (hts _ gw_39) (fun _ h9 => h9) rfl d_DR_append_64 ?_
          refine lv_iconst (v := 1) hx hb d_DR_append_67 (by decide) ?_
          refine lv_iadd hx hb d_DR_append_68 ?_
          refine va_put (D := (dC, dI)) (ci := 2) (v := .int (y0_1 + (1 : Int32))) (ty := .int) (C := R_DR) (T := F_DR) (N := 2) hx hb hts in_DR t_DR t_DR_ok n_DR hown hK hP hD hS 0 rfl rfl 1 (by decide) (hts _ gw_39) (fun _ h9 => h9) rfl (by decide +kernel) rfl rfl (Nat.le_of_ble_eq_true rfl) d_DR_append_69 (fun H locs hP hD hS => ?_)
          have hP : va_P (dC, dI) classes [(h, .inr (2, [.ref hw, .int (y0_1 + (1 : Int32))])), (hw, .inl (cI, 6, .inl (upd y1 ((y0_1 / (4 : Int32))).toNatClampNeg ((y1 ((y0_1 / (4 : Int32))).toNatClampNeg) ||| (((((jul bb ((8 : Int32) * x4))).toInt32) &&& (255 : Int32)) <<< (((24 : Int32) - ((8 : Int32) * (y0_1 - y0_1 / (4 : Int32) * (4 : Int32)))) &&& 31))))))] H := hP
          have hD : va_D A [(h, .inr (2, [.ref hw, .int (y0_1 + (1 : Int32))])), (hw, .inl (cI, 6, .inl (upd y1 ((y0_1 / (4 : Int32))).toNatClampNeg ((y1 ((y0_1 / (4 : Int32))).toNatClampNeg) ||| (((((jul bb ((8 : Int32) * x4))).toInt32) &&& (255 : Int32)) <<< (((24 : Int32) - ((8 : Int32) * (y0_1 - y0_1 / (4 : Int32) * (4 : Int32)))) &&& 31))))))] := hD
          refine lv_iinc (k := 3) (v := (x4 + (-1 : Int32))) (lv' := [(4, .int (x4 + (-1 : Int32))), (5, .int ((((jul bb ((8 : Int32) * x4))).toInt32) &&& (255 : Int32))), (0, .ref h), (1, .long bb)]) hx hb d_DR_append_72 hl rfl rfl (by decide) rfl (fun ls hl => ?_)
          refine lv_goto (tgt := 5) hx hb d_DR_append_75 (by decide) ?_
          have e0 : (f_DR_append_5 bb n0 dl w (n + 1) x4 y0_1 y1) = f_DR_append_5 bb n0 dl w n (x4 + (-1 : Int32)) (y0_1 + (1 : Int32)) (upd y1 ((y0_1 / (4 : Int32))).toNatClampNeg ((y1 ((y0_1 / (4 : Int32))).toNatClampNeg) ||| (((((jul bb ((8 : Int32) * x4))).toInt32) &&& (255 : Int32)) <<< (((24 : Int32) - ((8 : Int32) * (y0_1 - y0_1 / (4 : Int32) * (4 : Int32)))) &&& 31)))) := by rw [f_DR_append_5, if_neg h3, if_neg h4]
          rw [e0]
          exact ih (x4 + (-1 : Int32)) (y0_1 + (1 : Int32)) (upd y1 ((y0_1 / (4 : Int32))).toNatClampNeg ((y1 ((y0_1 / (4 : Int32))).toNatClampNeg) ||| (((((jul bb ((8 : Int32) * x4))).toInt32) &&& (255 : Int32)) <<< (((24 : Int32) - ((8 : Int32) * (y0_1 - y0_1 / (4 : Int32) * (4 : Int32)))) &&& 31)))) _ _ ls (lp_up hI (by assumption)).1.1 (lp_ms hI (by assumption) hm) (lv_sub hl [2, 3, 0] rfl) hP hD hS
  have hl := lv_entry ([.ref h, .long bb, .int n0]) (n := 6) (Nat.le_of_ble_eq_true rfl)
  rw [lg_entry_eq]
  generalize (lg_sl ([.ref h, .long bb, .int n0]) ++ List.replicate (6 - (lg_sl ([.ref h, .long bb, .int n0])).length) Slot.unset).toArray = ls at hl ⊢
  have hl : lv_has ls 6 [(0, .ref h), (1, .long bb), (3, .int n0)] := hl
  refine lv_iload_n hx hb d_DR_append_0 rfl (lv_at hl 2 rfl) ?_
  refine lv_iconst (v := 1) hx hb d_DR_append_1 (by decide) ?_
  refine lv_isub hx hb d_DR_append_2 ?_
  refine lv_istore (lv' := [(4, .int (n0 - (1 : Int32))), (0, .ref h), (1, .long bb), (3, .int n0)]) hx hb d_DR_append_3 hl (by decide) rfl (fun ls hl => ?_)
  have e0 : (f_DR_append bb n0 dl w) = f_DR_append_5 bb n0 dl w 25 (n0 - (1 : Int32)) dl w := by rw [f_DR_append]
  rw [e0]
  exact lp_5 25 (n0 - (1 : Int32)) dl w _ _ ls hl0 (ms24 hl0) (lv_sub hl [1, 2, 0] rfl) hP hD hS
