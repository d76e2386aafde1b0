theorem p_holds3 {x : Int32} (h : x = 0 ∨ x = 1 ∨ x = -1) (hn : 0 ≤ x) : x = 0 ∨ x = 1 := by
  rcases h with h | h | h
  · exact Or.inl h
  · exact Or.inr h
  · subst h; exact absurd hn (by decide)

-- MO_write
theorem d_MO_write_0 : decode prog_8_method_11_code 0 = .ok (.aload_n 0, 1) := by decide +kernel
theorem d_MO_write_1 : decode prog_8_method_11_code 1 = .ok (.getfield 22, 3) := by decide +kernel
theorem d_MO_write_4 : decode prog_8_method_11_code 4 = .ok (.ifCond .ne 8, 3) := by decide +kernel
theorem d_MO_write_7 : decode prog_8_method_11_code 7 = .ok (.aload_n 0, 1) := by decide +kernel
theorem d_MO_write_8 : decode prog_8_method_11_code 8 = .ok (.iconst 1, 1) := by decide +kernel
theorem d_MO_write_9 : decode prog_8_method_11_code 9 = .ok (.putfield 217, 3) := by decide +kernel
theorem d_MO_write_12 : decode prog_8_method_11_code 12 = .ok (.aload_n 0, 1) := by decide +kernel
theorem d_MO_write_13 : decode prog_8_method_11_code 13 = .ok (.getfield 217, 3) := by decide +kernel
theorem d_MO_write_16 : decode prog_8_method_11_code 16 = .ok (.ifCond .eq 4, 3) := by decide +kernel
theorem d_MO_write_19 : decode prog_8_method_11_code 19 = .ok (.return_, 1) := by decide +kernel
theorem d_MO_write_20 : decode prog_8_method_11_code 20 = .ok (.aload_n 0, 1) := by decide +kernel
theorem d_MO_write_21 : decode prog_8_method_11_code 21 = .ok (.getfield 22, 3) := by decide +kernel
theorem d_MO_write_24 : decode prog_8_method_11_code 24 = .ok (.ifCond .le 13, 3) := by decide +kernel
theorem d_MO_write_27 : decode prog_8_method_11_code 27 = .ok (.aload_n 0, 1) := by decide +kernel
theorem d_MO_write_28 : decode prog_8_method_11_code 28 = .ok (.dup, 1) := by decide +kernel
theorem d_MO_write_29 : decode prog_8_method_11_code 29 = .ok (.getfield 22, 3) := by decide +kernel
theorem d_MO_write_32 : decode prog_8_method_11_code 32 = .ok (.iconst 1, 1) := by decide +kernel
theorem d_MO_write_33 : decode prog_8_method_11_code 33 = .ok (.isub, 1) := by decide +kernel
theorem d_MO_write_34 : decode prog_8_method_11_code 34 = .ok (.putfield 22, 3) := by decide +kernel
theorem d_MO_write_37 : decode prog_8_method_11_code 37 = .ok (.aload_n 0, 1) := by decide +kernel
theorem d_MO_write_38 : decode prog_8_method_11_code 38 = .ok (.getfield 7, 3) := by decide +kernel
theorem d_MO_write_41 : decode prog_8_method_11_code 41 = .ok (.iload_n 1, 1) := by decide +kernel
theorem d_MO_write_42 : decode prog_8_method_11_code 42 = .ok (.iload_n 2, 1) := by decide +kernel
theorem d_MO_write_43 : decode prog_8_method_11_code 43 = .ok (.iastore, 1) := by decide +kernel
theorem d_MO_write_44 : decode prog_8_method_11_code 44 = .ok (.return_, 1) := by decide +kernel
def y_MO_write : MethodName := ⟨"BootChainModel", "write", "(II)V"⟩
def ws_MO_write : List Cond := .code y_MO_write prog_8_method_11_code 3 none :: bc_G
def f_MO_write_j12 (at0 : Int32) (wo : Int32) (th : Int32) (le : Int32) (lo : Int32) (da : Int32) (si : Int32) (fl : Nat → Int32) (y0_5 : Int32) (y0_6 : Int32) (y1 : Nat → Int32) : Int32 × Int32 × (Nat → Int32) := if y0_6 = 0 then if y0_5 ≤ 0 then (y0_5, y0_6, (upd y1 (at0).toNatClampNeg wo)) else ((y0_5 - (1 : Int32)), y0_6, (upd y1 (at0).toNatClampNeg wo)) else (y0_5, y0_6, y1)
def f_MO_write (at0 : Int32) (wo : Int32) (th : Int32) (le : Int32) (lo : Int32) (da : Int32) (si : Int32) (fl : Nat → Int32) : Int32 × Int32 × (Nat → Int32) := if le = 0 then f_MO_write_j12 at0 wo th le lo da si fl le (1 : Int32) fl else f_MO_write_j12 at0 wo th le lo da si fl le lo fl
set_option maxHeartbeats 4000000 in
set_option maxRecDepth 100000 in
theorem c_MO_write (l : Launch) (dC : Nat → ClassId) (dI : Nat → Nat → Nat) (cI cJ : ClassId) (h af ak ar ag ad ac ab ax aw an av aa : Nat) (sz : Nat) (at0 : Int32) (wo : Int32) (th : Int32) (le : Int32) (lo : Int32) (da : Int32) (si : Int32) (fl : Nat → Int32) (hat : vp_in at0 70) : Met l y_MO_write ws_MO_write ({ frames := 0, cells := 0, slots := 0, locals := 0 } : Room) (va_Pc [.ref h, .int at0, .int wo] (bc_pre (dC, dI) cI cJ [(h, .inr (5, [.int th, .ref af, .ref ak, .ref ar, .ref ag, .int le, .int lo, .int da, .ref ad, .ref ac, .ref ab, .int si, .ref ax, .ref aw, .ref an, .ref av, .ref aa])), (af, .inl (cI, 70, .inl fl))] sz)) (va_Qv (fun (_ : Unit) => True) (fun _ => bc_post (dC, dI) cI cJ (va_A [(h, .inr (5, [.int th, .ref af, .ref ak, .ref ar, .ref ag, .int le, .int lo, .int da, .ref ad, .ref ac, .ref ab, .int si, .ref ax, .ref aw, .ref an, .ref av, .ref aa])), (af, .inl (cI, 70, .inl fl))] sz) [(h, .inr (5, [.int th, .ref af, .ref ak, .ref ar, .ref ag, .int (f_MO_write at0 wo th le lo da si fl).1, .int (f_MO_write at0 wo th le lo da si fl).2.1, .int da, .ref ad, .ref ac, .ref ab, .int si, .ref ax, .ref aw, .ref an, .ref av, .ref aa])), (af, .inl (cI, 70, .inl (f_MO_write at0 wo th le lo da si fl).2.2))]) (va_A [(h, .inr (5, [.int th, .ref af, .ref ak, .ref ar, .ref ag, .int le, .int lo, .int da, .ref ad, .ref ac, .ref ab, .int si, .ref ax, .ref aw, .ref an, .ref av, .ref aa])), (af, .inl (cI, 70, .inl fl))] sz)) 0 0 (va_A [(h, .inr (5, [.int th, .ref af, .ref ak, .ref ar, .ref ag, .int le, .int lo, .int da, .ref ad, .ref ac, .ref ab, .int si, .ref ax, .ref aw, .ref an, .ref av, .ref aa])), (af, .inl (cI, 70, .inl fl))] sz) := by
  refine Met.ofW (cc := prog_8_method_11_code) (maxL := 3) (ret := none) (by decide) rfl ?_
  intro p e s m args below meth c s₁ B hml hv
  obtain ⟨rfl, hsz, hP, hK, hD0, hE⟩ := hv
  have hx := B.exec
  have hb := B.bytes
  have hr := B.returns
  have hts : ∀ w ∈ bc_G, w.before ([.ref h, .int at0, .int wo] : List Value).toArray s = true := fun w h => atoms_spec (ws := ws_MO_write) B.pre w (List.mem_cons_of_mem _ h)
  have hown : s.vm.findClass "BootChainModel" = some m.cls := findClass_of_methodNamed B.named
  have hlocks := B.notSynchronized
  subst hsz
  have hD := hD0.self (sz := s.heap.size)
  generalize hAe : va_A [(h, .inr (5, [.int th, .ref af, .ref ak, .ref ar, .ref ag, .int le, .int lo, .int da, .ref ad, .ref ac, .ref ab, .int si, .ref ax, .ref aw, .ref an, .ref av, .ref aa])), (af, .inl (cI, 70, .inl fl))] s.heap.size = A at hD hE ⊢
  have hA : ∀ q : Nat, s.heap.size ≤ q → A q := fun q h => by rw [← hAe]; exact Or.inr h
  have hS : va_S A s.heap s.heap [] := va_S.rf
  have jn_12 : ∀ (y0_5 : Int32) (y0_6 : Int32) (y1 : Nat → Int32) (H : Heap) (locs : List Loc) (ls : Array Slot), lv_has ls 3 [(0, .ref h), (1, .int at0), (2, .int wo)] → va_P (dC, dI) classes [(h, .inr (5, [.int th, .ref af, .ref ak, .ref ar, .ref ag, .int y0_5, .int y0_6, .int da, .ref ad, .ref ac, .ref ab, .int si, .ref ax, .ref aw, .ref an, .ref av, .ref aa])), (af, .inl (cI, 70, .inl y1))] H → va_D A [(h, .inr (5, [.int th, .ref af, .ref ak, .ref ar, .ref ag, .int y0_5, .int y0_6, .int da, .ref ad, .ref ac, .ref ab, .int si, .ref ax, .ref aw, .ref an, .ref av, .ref aa])), (af, .inl (cI, 70, .inl y1))] → va_S A s.heap H locs → W p l e (headSpec ws_MO_write ({ frames := 0, cells := 0, slots := 0, locals := 0 } : Room)).room s m ([.ref h, .int at0, .int wo] : List Value).toArray below meth c H locs 0 0 (MQ below (va_Qv (fun (_ : Unit) => True) (fun _ => bc_post (dC, dI) cI cJ A [(h, .inr (5, [.int th, .ref af, .ref ak, .ref ar, .ref ag, .int (f_MO_write_j12 at0 wo th le lo da si fl y0_5 y0_6 y1).1, .int (f_MO_write_j12 at0 wo th le lo da si fl y0_5 y0_6 y1).2.1, .int da, .ref ad, .ref ac, .ref ab, .int si, .ref ax, .ref aw, .ref an, .ref av, .ref aa])), (af, .inl (cI, 70, .inl (f_MO_write_j12 at0 wo th le lo da si fl y0_5 y0_6 y1).2.2))]) A) ([.ref h, .int at0, .int wo] : List Value).toArray s 0 0 A) (F0 m 12 ls []) := by
    intro y0_5 y0_6 y1 H locs ls hl hP hD hS
    refine lv_aload_n hx hb d_MO_write_12 rfl (lv_at hl 0 rfl) ?_
    refine va_get (D := (dC, dI)) (ci := 5) (v := .int y0_6) (C := R_MO) (T := F_MO) (N := 17) hx hb hts in_MO hown hK hP 0 rfl rfl 6 (by decide) (hts _ gw_524) (fun _ h9 => h9) rfl d_MO_write_13 ?_
    refine lv_if_eq (tgt := 20) hx hb d_MO_write_16 (by decide) (fun h5 => ?_) (fun h5 => ?_)
    · refine lv_aload_n hx hb d_MO_write_20 rfl (lv_at hl 0 rfl) ?_
      refine va_get (D := (dC, dI)) (ci := 5) (v := .int y0_5) (C := R_MO) (T := F_MO) (N := 17) hx hb hts in_MO hown hK hP 0 rfl rfl 5 (by decide) (hts _ gw_523) (fun _ h9 => h9) rfl d_MO_write_21 ?_
      refine lv_if_le (tgt := 37) hx hb d_MO_write_24 (by decide) (fun h6 => ?_) (fun h6 => ?_)
      · refine lv_aload_n hx hb d_MO_write_37 rfl (lv_at hl 0 rfl) ?_
        refine va_get (D := (dC, dI)) (ci := 5) (v := .ref af) (C := R_MO) (T := F_MO) (N := 17) hx hb hts in_MO hown hK hP 0 rfl rfl 1 (by decide) (hts _ gw_519) (fun _ h9 => h9) rfl d_MO_write_38 ?_
        refine lv_iload_n hx hb d_MO_write_41 rfl (lv_at hl 1 rfl) ?_
        refine lv_iload_n hx hb d_MO_write_42 rfl (lv_at hl 2 rfl) ?_
        refine va_iast hx hb hK hP hD hS 1 0 rfl rfl (hat) d_MO_write_43 (fun H locs hP hD hS => ?_)
        have hP : va_P (dC, dI) classes [(h, .inr (5, [.int th, .ref af, .ref ak, .ref ar, .ref ag, .int y0_5, .int y0_6, .int da, .ref ad, .ref ac, .ref ab, .int si, .ref ax, .ref aw, .ref an, .ref av, .ref aa])), (af, .inl (cI, 70, .inl (upd y1 (at0).toNatClampNeg wo)))] H := hP
        have hD : va_D A [(h, .inr (5, [.int th, .ref af, .ref ak, .ref ar, .ref ag, .int y0_5, .int y0_6, .int da, .ref ad, .ref ac, .ref ab, .int si, .ref ax, .ref aw, .ref an, .ref av, .ref aa])), (af, .inl (cI, 70, .inl (upd y1 (at0).toNatClampNeg wo)))] := hD
        have e0 : (f_MO_write_j12 at0 wo th le lo da si fl y0_5 y0_6 y1) = (y0_5, y0_6, (upd y1 (at0).toNatClampNeg wo)) := by rw [f_MO_write_j12, if_pos h5, if_pos h6]
        rw [e0]
        exact W.vret hx hb hr (fun t ht hW => ⟨⟨(), rfl, trivial, by rw [ht]; exact hP, va_K.moved hW.alike hK, hD⟩, hS.F ht⟩) hS.2.2 d_MO_write_44
      · refine lv_aload_n hx hb d_MO_write_27 rfl (lv_at hl 0 rfl) ?_
        refine lv_dup hx hb d_MO_write_28 rfl ?_
        refine va_get (D := (dC, dI)) (ci := 5) (v := .int y0_5) (C := R_MO) (T := F_MO) (N := 17) hx hb hts in_MO hown hK hP 0 rfl rfl 5 (by decide) (hts _ gw_523) (fun _ h9 => h9) rfl d_MO_write_29 ?_
        refine lv_iconst (v := 1) hx hb d_MO_write_32 (by decide) ?_
        refine lv_isub hx hb d_MO_write_33 ?_
        refine va_put (D := (dC, dI)) (ci := 5) (v := .int (y0_5 - (1 : Int32))) (ty := .int) (C := R_MO) (T := F_MO) (N := 17) hx hb hts in_MO t_MO t_MO_ok n_MO hown hK hP hD hS 0 rfl rfl 5 (by decide) (hts _ gw_523) (fun _ h9 => h9) rfl (by decide +kernel) rfl rfl (Nat.le_of_ble_eq_true rfl) d_MO_write_34 (fun H locs hP hD hS => ?_)
        have hP : va_P (dC, dI) classes [(h, .inr (5, [.int th, .ref af, .ref ak, .ref ar, .ref ag, .int (y0_5 - (1 : Int32)), .int y0_6, .int da, .ref ad, .ref ac, .ref ab, .int si, .ref ax, .ref aw, .ref an, .ref av, .ref aa])), (af, .inl (cI, 70, .inl y1))] H := hP
        have hD : va_D A [(h, .inr (5, [.int th, .ref af, .ref ak, .ref ar, .ref ag, .int (y0_5 - (1 : Int32)), .int y0_6, .int da, .ref ad, .ref ac, .ref ab, .int si, .ref ax, .ref aw, .ref an, .ref av, .ref aa])), (af, .inl (cI, 70, .inl y1))] := hD
        refine lv_aload_n hx hb d_MO_write_37 rfl (lv_at hl 0 rfl) ?_
        refine va_get (D := (dC, dI)) (ci := 5) (v := .ref af) (C := R_MO) (T := F_MO) (N := 17) hx hb hts in_MO hown hK hP 0 rfl rfl 1 (by decide) (hts _ gw_519) (fun _ h9 => h9) rfl d_MO_write_38 ?_
        refine lv_iload_n hx hb d_MO_write_41 rfl (lv_at hl 1 rfl) ?_
        refine lv_iload_n hx hb d_MO_write_42 rfl (lv_at hl 2 rfl) ?_
        refine va_iast hx hb hK hP hD hS 1 0 rfl rfl (hat) d_MO_write_43 (fun H locs hP hD hS => ?_)
        have hP : va_P (dC, dI) classes [(h, .inr (5, [.int th, .ref af, .ref ak, .ref ar, .ref ag, .int (y0_5 - (1 : Int32)), .int y0_6, .int da, .ref ad, .ref ac, .ref ab, .int si, .ref ax, .ref aw, .ref an, .ref av, .ref aa])), (af, .inl (cI, 70, .inl (upd y1 (at0).toNatClampNeg wo)))] H := hP
        have hD : va_D A [(h, .inr (5, [.int th, .ref af, .ref ak, .ref ar, .ref ag, .int (y0_5 - (1 : Int32)), .int y0_6, .int da, .ref ad, .ref ac, .ref ab, .int si, .ref ax, .ref aw, .ref an, .ref av, .ref aa])), (af, .inl (cI, 70, .inl (upd y1 (at0).toNatClampNeg wo)))] := hD
        have e0 : (f_MO_write_j12 at0 wo th le lo da si fl y0_5 y0_6 y1) = ((y0_5 - (1 : Int32)), y0_6, (upd y1 (at0).toNatClampNeg wo)) := by rw [f_MO_write_j12, if_pos h5, if_neg h6]
        rw [e0]
        exact W.vret hx hb hr (fun t ht hW => ⟨⟨(), rfl, trivial, by rw [ht]; exact hP, va_K.moved hW.alike hK, hD⟩, hS.F ht⟩) hS.2.2 d_MO_write_44
    · have e0 : (f_MO_write_j12 at0 wo th le lo da si fl y0_5 y0_6 y1) = (y0_5, y0_6, y1) := by rw [f_MO_write_j12, if_neg h5]
      rw [e0]
      exact W.vret hx hb hr (fun t ht hW => ⟨⟨(), rfl, trivial, by rw [ht]; exact hP, va_K.moved hW.alike hK, hD⟩, hS.F ht⟩) hS.2.2 d_MO_write_19
  have hl := lv_entry ([.ref h, .int at0, .int wo]) (n := 3) (Nat.le_of_ble_eq_true rfl)
  rw [lg_entry_eq]
  generalize (lg_sl ([.ref h, .int at0, .int wo]) ++ List.replicate (3 - (lg_sl ([.ref h, .int at0, .int wo])).length) Slot.unset).toArray = ls at hl ⊢
  have hl : lv_has ls 3 [(0, .ref h), (1, .int at0), (2, .int wo)] := hl
  refine lv_aload_n hx hb d_MO_write_0 rfl (lv_at hl 0 rfl) ?_
  refine va_get (D := (dC, dI)) (ci := 5) (v := .int le) (C := R_MO) (T := F_MO) (N := 17) hx hb hts in_MO hown hK hP 0 rfl rfl 5 (by decide) (hts _ gw_523) (fun _ h9 => h9) rfl d_MO_write_1 ?_
  refine lv_if_ne (tgt := 12) hx hb d_MO_write_4 (by decide) (fun h4 => ?_) (fun h4 => ?_)
  · have e0 : (f_MO_write at0 wo th le lo da si fl) = f_MO_write_j12 at0 wo th le lo da si fl le lo fl := by rw [f_MO_write, if_neg h4]
    rw [e0]
    exact jn_12 le lo fl _ _ ls (lv_sub hl [0, 1, 2] rfl) hP hD hS
  · refine lv_aload_n hx hb d_MO_write_7 rfl (lv_at hl 0 rfl) ?_
    refine lv_iconst (v := 1) hx hb d_MO_write_8 (by decide) ?_
    refine va_put (D := (dC, dI)) (ci := 5) (v := .int (1 : Int32)) (ty := .boolean) (C := R_MO) (T := F_MO) (N := 17) hx hb hts in_MO t_MO t_MO_ok n_MO hown hK hP hD hS 0 rfl rfl 6 (by decide) (hts _ gw_524) (fun _ h9 => h9) rfl (by decide +kernel) rfl rfl (Nat.le_of_ble_eq_true rfl) d_MO_write_9 (fun H locs hP hD hS => ?_)
    have hP : va_P (dC, dI) classes [(h, .inr (5, [.int th, .ref af, .ref ak, .ref ar, .ref ag, .int le, .int (1 : Int32), .int da, .ref ad, .ref ac, .ref ab, .int si, .ref ax, .ref aw, .ref an, .ref av, .ref aa])), (af, .inl (cI, 70, .inl fl))] H := hP
    have hD : va_D A [(h, .inr (5, [.int th, .ref af, .ref ak, .ref ar, .ref ag, .int le, .int (1 : Int32), .int da, .ref ad, .ref ac, .ref ab, .int si, .ref ax, .ref aw, .ref an, .ref av, .ref aa])), (af, .inl (cI, 70, .inl fl))] := hD
    have e0 : (f_MO_write at0 wo th le lo da si fl) = f_MO_write_j12 at0 wo th le lo da si fl le (1 : Int32) fl := by rw [f_MO_write, if_pos h4]
    rw [e0]
    exact jn_12 le (1 : Int32) fl _ _ ls (lv_sub hl [0, 1, 2] rfl) hP hD hS
-- MO_valid
theorem d_MO_valid_0 : decode prog_8_method_12_code 0 = .ok (.aload_n 0, 1) := by decide +kernel
theorem d_MO_valid_1 : decode prog_8_method_12_code 1 = .ok (.getfield 7, 3) := by decide +kernel
theorem d_MO_valid_4 : decode prog_8_method_12_code 4 = .ok (.bipush 66, 2) := by decide +kernel
theorem d_MO_valid_6 : decode prog_8_method_12_code 6 = .ok (.iconst 3, 1) := by decide +kernel
theorem d_MO_valid_7 : decode prog_8_method_12_code 7 = .ok (.iload_n 1, 1) := by decide +kernel
theorem d_MO_valid_8 : decode prog_8_method_12_code 8 = .ok (.imul, 1) := by decide +kernel
theorem d_MO_valid_9 : decode prog_8_method_12_code 9 = .ok (.iadd, 1) := by decide +kernel
theorem d_MO_valid_10 : decode prog_8_method_12_code 10 = .ok (.iaload, 1) := by decide +kernel
theorem d_MO_valid_11 : decode prog_8_method_12_code 11 = .ok (.bipush 31, 2) := by decide +kernel
theorem d_MO_valid_13 : decode prog_8_method_12_code 13 = .ok (.aload_n 0, 1) := by decide +kernel
theorem d_MO_valid_14 : decode prog_8_method_12_code 14 = .ok (.getfield 7, 3) := by decide +kernel
theorem d_MO_valid_17 : decode prog_8_method_12_code 17 = .ok (.bipush 64, 2) := by decide +kernel
theorem d_MO_valid_19 : decode prog_8_method_12_code 19 = .ok (.iconst 3, 1) := by decide +kernel
theorem d_MO_valid_20 : decode prog_8_method_12_code 20 = .ok (.iload_n 1, 1) := by decide +kernel
theorem d_MO_valid_21 : decode prog_8_method_12_code 21 = .ok (.imul, 1) := by decide +kernel
theorem d_MO_valid_22 : decode prog_8_method_12_code 22 = .ok (.iadd, 1) := by decide +kernel
theorem d_MO_valid_23 : decode prog_8_method_12_code 23 = .ok (.iaload, 1) := by decide +kernel
theorem d_MO_valid_24 : decode prog_8_method_12_code 24 = .ok (.imul, 1) := by decide +kernel
theorem d_MO_valid_25 : decode prog_8_method_12_code 25 = .ok (.aload_n 0, 1) := by decide +kernel
theorem d_MO_valid_26 : decode prog_8_method_12_code 26 = .ok (.getfield 7, 3) := by decide +kernel
theorem d_MO_valid_29 : decode prog_8_method_12_code 29 = .ok (.bipush 65, 2) := by decide +kernel
theorem d_MO_valid_31 : decode prog_8_method_12_code 31 = .ok (.iconst 3, 1) := by decide +kernel
theorem d_MO_valid_32 : decode prog_8_method_12_code 32 = .ok (.iload_n 1, 1) := by decide +kernel
theorem d_MO_valid_33 : decode prog_8_method_12_code 33 = .ok (.imul, 1) := by decide +kernel
theorem d_MO_valid_34 : decode prog_8_method_12_code 34 = .ok (.iadd, 1) := by decide +kernel
theorem d_MO_valid_35 : decode prog_8_method_12_code 35 = .ok (.iaload, 1) := by decide +kernel
theorem d_MO_valid_36 : decode prog_8_method_12_code 36 = .ok (.iadd, 1) := by decide +kernel
theorem d_MO_valid_37 : decode prog_8_method_12_code 37 = .ok (.sipush 12345, 3) := by decide +kernel
theorem d_MO_valid_40 : decode prog_8_method_12_code 40 = .ok (.iadd, 1) := by decide +kernel
theorem d_MO_valid_41 : decode prog_8_method_12_code 41 = .ok (.if_icmp .ne 7, 3) := by decide +kernel
theorem d_MO_valid_44 : decode prog_8_method_12_code 44 = .ok (.iconst 1, 1) := by decide +kernel
theorem d_MO_valid_45 : decode prog_8_method_12_code 45 = .ok (.goto 4, 3) := by decide +kernel
theorem d_MO_valid_48 : decode prog_8_method_12_code 48 = .ok (.iconst 0, 1) := by decide +kernel
theorem d_MO_valid_49 : decode prog_8_method_12_code 49 = .ok (.ireturn, 1) := by decide +kernel
def y_MO_valid : MethodName := ⟨"BootChainModel", "valid", "(I)Z"⟩
def ws_MO_valid : List Cond := .code y_MO_valid prog_8_method_12_code 2 (some .boolean) :: bc_G
def f_MO_valid (r0 : Int32) (th : Int32) (le : Int32) (lo : Int32) (da : Int32) (si : Int32) (fl : Nat → Int32) : Int32 := if (fl (((66 : Int32) + ((3 : Int32) * r0))).toNatClampNeg) = ((((31 : Int32) * (fl (((64 : Int32) + ((3 : Int32) * r0))).toNatClampNeg)) + (fl (((65 : Int32) + ((3 : Int32) * r0))).toNatClampNeg)) + (12345 : Int32)) then (1 : Int32) else (0 : Int32)
set_option maxHeartbeats 4000000 in
set_option maxRecDepth 100000 in
theorem c_MO_valid (l : Launch) (dC : Nat → ClassId) (dI : Nat → Nat → Nat) (cI cJ : ClassId) (h af ak ar ag ad ac ab ax aw an av aa : Nat) (sz : Nat) (r0 : Int32) (th : Int32) (le : Int32) (lo : Int32) (da : Int32) (si : Int32) (fl : Nat → Int32) (hr01 : r0 = 0 ∨ r0 = 1) : Met l y_MO_valid ws_MO_valid ({ frames := 0, cells := 0, slots := 0, locals := 0 } : Room) (va_Pc [.ref h, .int r0] (bc_pre (dC, dI) cI cJ [(h, .inr (5, [.int th, .ref af, .ref ak, .ref ar, .ref ag, .int le, .int lo, .int da, .ref ad, .ref ac, .ref ab, .int si, .ref ax, .ref aw, .ref an, .ref av, .ref aa])), (af, .inl (cI, 70, .inl fl))] sz)) (va_Qi (fun (r : Int32) (_ : Unit) => r = (f_MO_valid r0 th le lo da si fl)) (fun _ => bc_post (dC, dI) cI cJ (va_A [(h, .inr (5, [.int th, .ref af, .ref ak, .ref ar, .ref ag, .int le, .int lo, .int da, .ref ad, .ref ac, .ref ab, .int si, .ref ax, .ref aw, .ref an, .ref av, .ref aa])), (af, .inl (cI, 70, .inl fl))] sz) [(h, .inr (5, [.int th, .ref af, .ref ak, .ref ar, .ref ag, .int le, .int lo, .int da, .ref ad, .ref ac, .ref ab, .int si, .ref ax, .ref aw, .ref an, .ref av, .ref aa])), (af, .inl (cI, 70, .inl fl))]) (va_A [(h, .inr (5, [.int th, .ref af, .ref ak, .ref ar, .ref ag, .int le, .int lo, .int da, .ref ad, .ref ac, .ref ab, .int si, .ref ax, .ref aw, .ref an, .ref av, .ref aa])), (af, .inl (cI, 70, .inl fl))] sz)) 0 0 (va_A [(h, .inr (5, [.int th, .ref af, .ref ak, .ref ar, .ref ag, .int le, .int lo, .int da, .ref ad, .ref ac, .ref ab, .int si, .ref ax, .ref aw, .ref an, .ref av, .ref aa])), (af, .inl (cI, 70, .inl fl))] sz) := by
  refine Met.ofW (cc := prog_8_method_12_code) (maxL := 2) (ret := (some .boolean)) (by decide) rfl ?_
  intro p e s m args below meth c s₁ B hml hv
  obtain ⟨rfl, hsz, hP, hK, hD0, hE⟩ := hv
  have hx := B.exec
  have hb := B.bytes
  have hr := B.returns
  have hts : ∀ w ∈ bc_G, w.before ([.ref h, .int r0] : List Value).toArray s = true := fun w h => atoms_spec (ws := ws_MO_valid) B.pre w (List.mem_cons_of_mem _ h)
  have hown : s.vm.findClass "BootChainModel" = some m.cls := findClass_of_methodNamed B.named
  have hlocks := B.notSynchronized
  subst hsz
  have hD := hD0.self (sz := s.heap.size)
  generalize hAe : va_A [(h, .inr (5, [.int th, .ref af, .ref ak, .ref ar, .ref ag, .int le, .int lo, .int da, .ref ad, .ref ac, .ref ab, .int si, .ref ax, .ref aw, .ref an, .ref av, .ref aa])), (af, .inl (cI, 70, .inl fl))] s.heap.size = A at hD hE ⊢
  have hA : ∀ q : Nat, s.heap.size ≤ q → A q := fun q h => by rw [← hAe]; exact Or.inr h
  have hS : va_S A s.heap s.heap [] := va_S.rf
  have hl := lv_entry ([.ref h, .int r0]) (n := 2) (Nat.le_of_ble_eq_true rfl)
  rw [lg_entry_eq]
  generalize (lg_sl ([.ref h, .int r0]) ++ List.replicate (2 - (lg_sl ([.ref h, .int r0])).length) Slot.unset).toArray = ls at hl ⊢
  have hl : lv_has ls 2 [(0, .ref h), (1, .int r0)] := hl
  refine lv_aload_n hx hb d_MO_valid_0 rfl (lv_at hl 0 rfl) ?_
  refine va_get (D := (dC, dI)) (ci := 5) (v := .ref af) (C := R_MO) (T := F_MO) (N := 17) hx hb hts in_MO hown hK hP 0 rfl rfl 1 (by decide) (hts _ gw_519) (fun _ h9 => h9) rfl d_MO_valid_1 ?_
  refine lv_bipush (v := 66) hx hb d_MO_valid_4 (by decide) ?_
  refine lv_iconst (v := 3) hx hb d_MO_valid_6 (by decide) ?_
  refine lv_iload_n hx hb d_MO_valid_7 rfl (lv_at hl 1 rfl) ?_
  refine lv_imul hx hb d_MO_valid_8 ?_
  refine lv_iadd hx hb d_MO_valid_9 ?_
  refine va_iald hx hb hK hP 1 0 rfl rfl (by rcases hr01 with rfl | rfl <;> (unfold vp_in; decide +kernel)) d_MO_valid_10 ?_
  refine lv_bipush (v := 31) hx hb d_MO_valid_11 (by decide) ?_
  refine lv_aload_n hx hb d_MO_valid_13 rfl (lv_at hl 0 rfl) ?_
  refine va_get (D := (dC, dI)) (ci := 5) (v := .ref af) (C := R_MO) (T := F_MO) (N := 17) hx hb hts in_MO hown hK hP 0 rfl rfl 1 (by decide) (hts _ gw_519) (fun _ h9 => h9) rfl d_MO_valid_14 ?_
  refine lv_bipush (v := 64) hx hb d_MO_valid_17 (by decide) ?_
  refine lv_iconst (v := 3) hx hb d_MO_valid_19 (by decide) ?_
  refine lv_iload_n hx hb d_MO_valid_20 rfl (lv_at hl 1 rfl) ?_
  refine lv_imul hx hb d_MO_valid_21 ?_
  refine lv_iadd hx hb d_MO_valid_22 ?_
  refine va_iald hx hb hK hP 1 0 rfl rfl (by rcases hr01 with rfl | rfl <;> (unfold vp_in; decide +kernel)) d_MO_valid_23 ?_
  refine lv_imul hx hb d_MO_valid_24 ?_
  refine lv_aload_n hx hb d_MO_valid_25 rfl (lv_at hl 0 rfl) ?_
  refine va_get (D := (dC, dI)) (ci := 5) (v := .ref af) (C := R_MO) (T := F_MO) (N := 17) hx hb hts in_MO hown hK hP 0 rfl rfl 1 (by decide) (hts _ gw_519) (fun _ h9 => h9) rfl d_MO_valid_26 ?_
  refine lv_bipush (v := 65) hx hb d_MO_valid_29 (by decide) ?_
  refine lv_iconst (v := 3) hx hb d_MO_valid_31 (by decide) ?_
  refine lv_iload_n hx hb d_MO_valid_32 rfl (lv_at hl 1 rfl) ?_
  refine lv_imul hx hb d_MO_valid_33 ?_
  refine lv_iadd hx hb d_MO_valid_34 ?_
  refine va_iald hx hb hK hP 1 0 rfl rfl (by rcases hr01 with rfl | rfl <;> (unfold vp_in; decide +kernel)) d_MO_valid_35 ?_
  refine lv_iadd hx hb d_MO_valid_36 ?_
  refine lv_sipush (v := 12345) hx hb d_MO_valid_37 (by decide) ?_
  refine lv_iadd hx hb d_MO_valid_40 ?_
  refine lv_icmp_ne (tgt := 48) hx hb d_MO_valid_41 (by decide) (fun h2 => ?_) (fun h2 => ?_)
  · refine lv_iconst (v := 0) hx hb d_MO_valid_48 (by decide) ?_
    have e0 : (f_MO_valid r0 th le lo da si fl) = (0 : Int32) := by rw [f_MO_valid, if_neg h2]
    rw [e0]
    exact W.zret (v := (0 : Int32)) (ty := .boolean) hx hb hr (rfl) (fun t ht hW => ⟨⟨(0 : Int32), (), rfl, rfl, by rw [ht]; exact hP, va_K.moved hW.alike hK, hD⟩, hS.F ht⟩) hS.2.2 d_MO_valid_49
  · refine lv_iconst (v := 1) hx hb d_MO_valid_44 (by decide) ?_
    refine lv_goto (tgt := 49) hx hb d_MO_valid_45 (by decide) ?_
    have e0 : (f_MO_valid r0 th le lo da si fl) = (1 : Int32) := by rw [f_MO_valid, if_pos h2]
    rw [e0]
    exact W.zret (v := (1 : Int32)) (ty := .boolean) hx hb hr (rfl) (fun t ht hW => ⟨⟨(1 : Int32), (), rfl, rfl, by rw [ht]; exact hP, va_K.moved hW.alike hK, hD⟩, hS.F ht⟩) hS.2.2 d_MO_valid_49
-- MO_holds
theorem d_MO_holds_0 : decode prog_8_method_13_code 0 = .ok (.aload_n 0, 1) := by decide +kernel
theorem d_MO_holds_1 : decode prog_8_method_13_code 1 = .ok (.iconst 0, 1) := by decide +kernel
theorem d_MO_holds_2 : decode prog_8_method_13_code 2 = .ok (.invokevirtual 221, 3) := by decide +kernel
theorem d_MO_holds_5 : decode prog_8_method_13_code 5 = .ok (.ifCond .ne 17, 3) := by decide +kernel
theorem d_MO_holds_8 : decode prog_8_method_13_code 8 = .ok (.aload_n 0, 1) := by decide +kernel
theorem d_MO_holds_9 : decode prog_8_method_13_code 9 = .ok (.iconst 1, 1) := by decide +kernel
theorem d_MO_holds_10 : decode prog_8_method_13_code 10 = .ok (.invokevirtual 221, 3) := by decide +kernel
theorem d_MO_holds_13 : decode prog_8_method_13_code 13 = .ok (.ifCond .eq 7, 3) := by decide +kernel
theorem d_MO_holds_16 : decode prog_8_method_13_code 16 = .ok (.iconst 1, 1) := by decide +kernel
theorem d_MO_holds_17 : decode prog_8_method_13_code 17 = .ok (.goto 4, 3) := by decide +kernel
theorem d_MO_holds_20 : decode prog_8_method_13_code 20 = .ok (.iconst (-1), 1) := by decide +kernel
theorem d_MO_holds_21 : decode prog_8_method_13_code 21 = .ok (.ireturn, 1) := by decide +kernel
theorem d_MO_holds_22 : decode prog_8_method_13_code 22 = .ok (.aload_n 0, 1) := by decide +kernel
theorem d_MO_holds_23 : decode prog_8_method_13_code 23 = .ok (.iconst 1, 1) := by decide +kernel
theorem d_MO_holds_24 : decode prog_8_method_13_code 24 = .ok (.invokevirtual 221, 3) := by decide +kernel
theorem d_MO_holds_27 : decode prog_8_method_13_code 27 = .ok (.ifCond .ne 5, 3) := by decide +kernel
theorem d_MO_holds_30 : decode prog_8_method_13_code 30 = .ok (.iconst 0, 1) := by decide +kernel
theorem d_MO_holds_31 : decode prog_8_method_13_code 31 = .ok (.ireturn, 1) := by decide +kernel
theorem d_MO_holds_32 : decode prog_8_method_13_code 32 = .ok (.aload_n 0, 1) := by decide +kernel
theorem d_MO_holds_33 : decode prog_8_method_13_code 33 = .ok (.getfield 7, 3) := by decide +kernel
theorem d_MO_holds_36 : decode prog_8_method_13_code 36 = .ok (.bipush 67, 2) := by decide +kernel
theorem d_MO_holds_38 : decode prog_8_method_13_code 38 = .ok (.iaload, 1) := by decide +kernel
theorem d_MO_holds_39 : decode prog_8_method_13_code 39 = .ok (.i2l, 1) := by decide +kernel
theorem d_MO_holds_40 : decode prog_8_method_13_code 40 = .ok (.ldc2_w 201, 3) := by decide +kernel
theorem d_MO_holds_43 : decode prog_8_method_13_code 43 = .ok (.land, 1) := by decide +kernel
theorem d_MO_holds_44 : decode prog_8_method_13_code 44 = .ok (.aload_n 0, 1) := by decide +kernel
theorem d_MO_holds_45 : decode prog_8_method_13_code 45 = .ok (.getfield 7, 3) := by decide +kernel
theorem d_MO_holds_48 : decode prog_8_method_13_code 48 = .ok (.bipush 64, 2) := by decide +kernel
theorem d_MO_holds_50 : decode prog_8_method_13_code 50 = .ok (.iaload, 1) := by decide +kernel
theorem d_MO_holds_51 : decode prog_8_method_13_code 51 = .ok (.i2l, 1) := by decide +kernel
theorem d_MO_holds_52 : decode prog_8_method_13_code 52 = .ok (.ldc2_w 201, 3) := by decide +kernel
theorem d_MO_holds_55 : decode prog_8_method_13_code 55 = .ok (.land, 1) := by decide +kernel
theorem d_MO_holds_56 : decode prog_8_method_13_code 56 = .ok (.lcmp, 1) := by decide +kernel
theorem d_MO_holds_57 : decode prog_8_method_13_code 57 = .ok (.ifCond .le 7, 3) := by decide +kernel
theorem d_MO_holds_60 : decode prog_8_method_13_code 60 = .ok (.iconst 1, 1) := by decide +kernel
theorem d_MO_holds_61 : decode prog_8_method_13_code 61 = .ok (.goto 4, 3) := by decide +kernel
theorem d_MO_holds_64 : decode prog_8_method_13_code 64 = .ok (.iconst 0, 1) := by decide +kernel
theorem d_MO_holds_65 : decode prog_8_method_13_code 65 = .ok (.ireturn, 1) := by decide +kernel
def y_MO_holds : MethodName := ⟨"BootChainModel", "holds", "()I"⟩
def ws_MO_holds : List Cond := .code y_MO_holds prog_8_method_13_code 1 (some .int) :: bc_G
def f_MO_holds (th : Int32) (le : Int32) (lo : Int32) (da : Int32) (si : Int32) (fl : Nat → Int32) : Int32 := if (f_MO_valid (0 : Int32) th le lo da si fl) = 0 then if (f_MO_valid (1 : Int32) th le lo da si fl) = 0 then (-1 : Int32) else (1 : Int32) else if (f_MO_valid (1 : Int32) th le lo da si fl) = 0 then (0 : Int32) else if (lg_cmp ((((fl ((67 : Int32)).toNatClampNeg)).toInt64) &&& (4294967295 : Int64)) ((((fl ((64 : Int32)).toNatClampNeg)).toInt64) &&& (4294967295 : Int64))) ≤ 0 then (0 : Int32) else (1 : Int32)
theorem p_holds (th le lo da si : Int32) (fl : Nat → Int32) : f_MO_holds th le lo da si fl = 0 ∨ f_MO_holds th le lo da si fl = 1 ∨ f_MO_holds th le lo da si fl = -1 := by
  unfold f_MO_holds
  repeat' split
  all_goals simp
theorem ix_h65 {x : Int32} (c : Nat) (h : x = 0 ∨ x = 1) (hc : c = 64 ∨ c = 65) : vp_in (nI c + 3 * x) 70 := by
  rcases h with rfl | rfl <;> rcases hc with rfl | rfl <;> (unfold vp_in; decide +kernel)
set_option maxHeartbeats 4000000 in
set_option maxRecDepth 100000 in
theorem c_MO_holds (l : Launch) (dC : Nat → ClassId) (dI : Nat → Nat → Nat) (cI cJ : ClassId) (h af ak ar ag ad ac ab ax aw an av aa : Nat) (sz : Nat) (th : Int32) (le : Int32) (lo : Int32) (da : Int32) (si : Int32) (fl : Nat → Int32) : Met l y_MO_holds ws_MO_holds ({ frames := 1, cells := 0, slots := 0, locals := 21 } : Room) (va_Pc [.ref h] (bc_pre (dC, dI) cI cJ [(h, .inr (5, [.int th, .ref af, .ref ak, .ref ar, .ref ag, .int le, .int lo, .int da, .ref ad, .ref ac, .ref ab, .int si, .ref ax, .ref aw, .ref an, .ref av, .ref aa])), (af, .inl (cI, 70, .inl fl))] sz)) (va_Qi (fun (r : Int32) (_ : Unit) => r = (f_MO_holds th le lo da si fl)) (fun _ => bc_post (dC, dI) cI cJ (va_A [(h, .inr (5, [.int th, .ref af, .ref ak, .ref ar, .ref ag, .int le, .int lo, .int da, .ref ad, .ref ac, .ref ab, .int si, .ref ax, .ref aw, .ref an, .ref av, .ref aa])), (af, .inl (cI, 70, .inl fl))] sz) [(h, .inr (5, [.int th, .ref af, .ref ak, .ref ar, .ref ag, .int le, .int lo, .int da, .ref ad, .ref ac, .ref ab, .int si, .ref ax, .ref aw, .ref an, .ref av, .ref aa])), (af, .inl (cI, 70, .inl fl))]) (va_A [(h, .inr (5, [.int th, .ref af, .ref ak, .ref ar, .ref ag, .int le, .int lo, .int da, .ref ad, .ref ac, .ref ab, .int si, .ref ax, .ref aw, .ref an, .ref av, .ref aa])), (af, .inl (cI, 70, .inl fl))] sz)) 0 0 (va_A [(h, .inr (5, [.int th, .ref af, .ref ak, .ref ar, .ref ag, .int le, .int lo, .int da, .ref ad, .ref ac, .ref ab, .int si, .ref ax, .ref aw, .ref an, .ref av, .ref aa])), (af, .inl (cI, 70, .inl fl))] sz) := by
  refine Met.ofW (cc := prog_8_method_13_code) (maxL := 1) (ret := (some .int)) (by decide) rfl ?_
  intro p e s m args below meth c s₁ B hml hv
  obtain ⟨rfl, hsz, hP, hK, hD0, hE⟩ := hv
  have hx := B.exec
  have hb := B.bytes
  have hr := B.returns
  have hts : ∀ w ∈ bc_G, w.before ([.ref h] : List Value).toArray s = true := fun w h => atoms_spec (ws := ws_MO_holds) B.pre w (List.mem_cons_of_mem _ h)
  have hown : s.vm.findClass "BootChainModel" = some m.cls := findClass_of_methodNamed B.named
  have hlocks := B.notSynchronized
  subst hsz
  have hD := hD0.self (sz := s.heap.size)
  generalize hAe : va_A [(h, .inr (5, [.int th, .ref af, .ref ak, .ref ar, .ref ag, .int le, .int lo, .int da, .ref ad, .ref ac, .ref ab, .int si, .ref ax, .ref aw, .ref an, .ref av, .ref aa])), (af, .inl (cI, 70, .inl fl))] s.heap.size = A at hD hE ⊢
  have hA : ∀ q : Nat, s.heap.size ≤ q → A q := fun q h => by rw [← hAe]; exact Or.inr h
  have hS : va_S A s.heap s.heap [] := va_S.rf
  have hl := lv_entry ([.ref h]) (n := 1) (Nat.le_of_ble_eq_true rfl)
  rw [lg_entry_eq]
  generalize (lg_sl ([.ref h]) ++ List.replicate (1 - (lg_sl ([.ref h])).length) Slot.unset).toArray = ls at hl ⊢
  have hl : lv_has ls 1 [(0, .ref h)] := hl
  refine lv_aload_n hx hb d_MO_holds_0 rfl (lv_at hl 0 rfl) ?_
  refine lv_iconst (v := 0) hx hb d_MO_holds_1 (by decide) ?_
  have hPc := hP.sub (ws' := [(h, .inr (5, [.int th, .ref af, .ref ak, .ref ar, .ref ag, .int le, .int lo, .int da, .ref ad, .ref ac, .ref ab, .int si, .ref ax, .ref aw, .ref an, .ref av, .ref aa])), (af, .inl (cI, 70, .inl fl))]) [0, 1] rfl
  have hDc := hD.sub (ws' := [(h, .inr (5, [.int th, .ref af, .ref ak, .ref ar, .ref ag, .int le, .int lo, .int da, .ref ad, .ref ac, .ref ab, .int si, .ref ax, .ref aw, .ref an, .ref av, .ref aa])), (af, .inl (cI, 70, .inl fl))]) [0, 1] (by decide) rfl
  have hFc := va_free (wc := [(h, .inr (5, [.int th, .ref af, .ref ak, .ref ar, .ref ag, .int le, .int lo, .int da, .ref ad, .ref ac, .ref ab, .int si, .ref ax, .ref aw, .ref an, .ref av, .ref aa])), (af, .inl (cI, 70, .inl fl))]) hD hS hA [0, 1] rfl
  refine va_calli (va_runV (As := [.int (0 : Int32)]) (rest := []) ⟨hx, hb, hml, hown, hts⟩ (c_MO_valid l dC dI cI cJ h af ak ar ag ad ac ab ax aw an av aa _ (0 : Int32) th le lo da si fl (by decide)) ⟨callB_of 1 hts (bc_good gw_578) rfl rfl rfl (hts _ gw_6) (hts _ gw_576) (by decide +kernel) ⟨Nat.le_of_ble_eq_true rfl, Nat.le_of_ble_eq_true rfl⟩, (hts _ gw_577), (hts _ gw_708)⟩ ⟨bc_blind, va_recv (q0 := 0) hK hP (q := (R_MO, F_MO, 17)) rfl rfl, fun U hU hW => ⟨rfl, bc_give hPc hDc hK hE hS hFc U hU hW⟩⟩ rfl rfl hl.1 rfl (lv_room (Nat.le_of_ble_eq_true rfl)) d_MO_holds_2 ⟨Nat.le_of_ble_eq_true rfl, Nat.le_of_ble_eq_true rfl⟩) hS (fun q _ h => hFc q h) hFc (fun r u t H9 locs ht hvm hp hB hz1 hk1 hS => ?_)
  subst hp
  obtain ⟨hP, hD⟩ := va_join (wr := []) (w1 := [(h, .inr (5, [.int th, .ref af, .ref ak, .ref ar, .ref ag, .int le, .int lo, .int da, .ref ad, .ref ac, .ref ab, .int si, .ref ax, .ref aw, .ref an, .ref av, .ref aa])), (af, .inl (cI, 70, .inl fl))]) hP hD [0, 1] [] rfl rfl (by decide) (by decide) hk1 hFc (ht ▸ hB.1) hB.2.2
  have hP := hP.sub (ws' := [(h, .inr (5, [.int th, .ref af, .ref ak, .ref ar, .ref ag, .int le, .int lo, .int da, .ref ad, .ref ac, .ref ab, .int si, .ref ax, .ref aw, .ref an, .ref av, .ref aa])), (af, .inl (cI, 70, .inl fl))]) [0, 1] rfl
  have hD := hD.sub (ws' := [(h, .inr (5, [.int th, .ref af, .ref ak, .ref ar, .ref ag, .int le, .int lo, .int da, .ref ad, .ref ac, .ref ab, .int si, .ref ax, .ref aw, .ref an, .ref av, .ref aa])), (af, .inl (cI, 70, .inl fl))]) [0, 1] (by decide) rfl
  generalize H9 = H at hP hS ⊢
  refine lv_if_ne (tgt := 22) hx hb d_MO_holds_5 (by decide) (fun h5 => ?_) (fun h5 => ?_)
  · refine lv_aload_n hx hb d_MO_holds_22 rfl (lv_at hl 0 rfl) ?_
    refine lv_iconst (v := 1) hx hb d_MO_holds_23 (by decide) ?_
    have hPc := hP.sub (ws' := [(h, .inr (5, [.int th, .ref af, .ref ak, .ref ar, .ref ag, .int le, .int lo, .int da, .ref ad, .ref ac, .ref ab, .int si, .ref ax, .ref aw, .ref an, .ref av, .ref aa])), (af, .inl (cI, 70, .inl fl))]) [0, 1] rfl
    have hDc := hD.sub (ws' := [(h, .inr (5, [.int th, .ref af, .ref ak, .ref ar, .ref ag, .int le, .int lo, .int da, .ref ad, .ref ac, .ref ab, .int si, .ref ax, .ref aw, .ref an, .ref av, .ref aa])), (af, .inl (cI, 70, .inl fl))]) [0, 1] (by decide) rfl
    have hFc := va_free (wc := [(h, .inr (5, [.int th, .ref af, .ref ak, .ref ar, .ref ag, .int le, .int lo, .int da, .ref ad, .ref ac, .ref ab, .int si, .ref ax, .ref aw, .ref an, .ref av, .ref aa])), (af, .inl (cI, 70, .inl fl))]) hD hS hA [0, 1] rfl
    refine va_calli (va_runV (As := [.int (1 : Int32)]) (rest := []) ⟨hx, hb, hml, hown, hts⟩ (c_MO_valid l dC dI cI cJ h af ak ar ag ad ac ab ax aw an av aa _ (1 : Int32) th le lo da si fl (by decide)) ⟨callB_of 1 hts (bc_good gw_578) rfl rfl rfl (hts _ gw_6) (hts _ gw_576) (by decide +kernel) ⟨Nat.le_of_ble_eq_true rfl, Nat.le_of_ble_eq_true rfl⟩, (hts _ gw_577), (hts _ gw_708)⟩ ⟨bc_blind, va_recv (q0 := 0) hK hP (q := (R_MO, F_MO, 17)) rfl rfl, fun U hU hW => ⟨rfl, bc_give hPc hDc hK hE hS hFc U hU hW⟩⟩ rfl rfl hl.1 rfl (lv_room (Nat.le_of_ble_eq_true rfl)) d_MO_holds_24 ⟨Nat.le_of_ble_eq_true rfl, Nat.le_of_ble_eq_true rfl⟩) hS (fun q _ h => hFc q h) hFc (fun r u t H9 locs ht hvm hp hB hz1 hk1 hS => ?_)
    subst hp
    obtain ⟨hP, hD⟩ := va_join (wr := []) (w1 := [(h, .inr (5, [.int th, .ref af, .ref ak, .ref ar, .ref ag, .int le, .int lo, .int da, .ref ad, .ref ac, .ref ab, .int si, .ref ax, .ref aw, .ref an, .ref av, .ref aa])), (af, .inl (cI, 70, .inl fl))]) hP hD [0, 1] [] rfl rfl (by decide) (by decide) hk1 hFc (ht ▸ hB.1) hB.2.2
    have hP := hP.sub (ws' := [(h, .inr (5, [.int th, .ref af, .ref ak, .ref ar, .ref ag, .int le, .int lo, .int da, .ref ad, .ref ac, .ref ab, .int si, .ref ax, .ref aw, .ref an, .ref av, .ref aa])), (af, .inl (cI, 70, .inl fl))]) [0, 1] rfl
    have hD := hD.sub (ws' := [(h, .inr (5, [.int th, .ref af, .ref ak, .ref ar, .ref ag, .int le, .int lo, .int da, .ref ad, .ref ac, .ref ab, .int si, .ref ax, .ref aw, .ref an, .ref av, .ref aa])), (af, .inl (cI, 70, .inl fl))]) [0, 1] (by decide) rfl
    generalize H9 = H at hP hS ⊢
    refine lv_if_ne (tgt := 32) hx hb d_MO_holds_27 (by decide) (fun h6 => ?_) (fun h6 => ?_)
    · refine lv_aload_n hx hb d_MO_holds_32 rfl (lv_at hl 0 rfl) ?_
      refine va_get (D := (dC, dI)) (ci := 5) (v := .ref af) (C := R_MO) (T := F_MO) (N := 17) hx hb hts in_MO hown hK hP 0 rfl rfl 1 (by decide) (hts _ gw_519) (fun _ h9 => h9) rfl d_MO_holds_33 ?_
      refine lv_bipush (v := 67) hx hb d_MO_holds_36 (by decide) ?_
      refine va_iald hx hb hK hP 1 0 rfl rfl (by unfold vp_in; decide +kernel) d_MO_holds_38 ?_
      refine lv_i2l (v := (((fl ((67 : Int32)).toNatClampNeg)).toInt64)) hx hb d_MO_holds_39 rfl ?_
      refine lv_ldc2 (v := 4294967295) hx hb hown (hts _ gw_579) d_MO_holds_40 ?_
      refine lv_land hx hb d_MO_holds_43 ?_
      refine lv_aload_n hx hb d_MO_holds_44 rfl (lv_at hl 0 rfl) ?_
      refine va_get (D := (dC, dI)) (ci := 5) (v := .ref af) (C := R_MO) (T := F_MO) (N := 17) hx hb hts in_MO hown hK hP 0 rfl rfl 1 (by decide) (hts _ gw_519) (fun _ h9 => h9) rfl d_MO_holds_45 ?_
      refine lv_bipush (v := 64) hx hb d_MO_holds_48 (by decide) ?_
      refine va_iald hx hb hK hP 1 0 rfl rfl (by unfold vp_in; decide +kernel) d_MO_holds_50 ?_
      refine lv_i2l (v := (((fl ((64 : Int32)).toNatClampNeg)).toInt64)) hx hb d_MO_holds_51 rfl ?_
      refine lv_ldc2 (v := 4294967295) hx hb hown (hts _ gw_579) d_MO_holds_52 ?_
      refine lv_land hx hb d_MO_holds_55 ?_
      refine W.lcmp hx hb d_MO_holds_56 ?_
      refine lv_if_le (tgt := 64) hx hb d_MO_holds_57 (by decide) (fun h7 => ?_) (fun h7 => ?_)
      · refine lv_iconst (v := 0) hx hb d_MO_holds_64 (by decide) ?_
        have e0 : (f_MO_holds th le lo da si fl) = (0 : Int32) := by rw [f_MO_holds, if_neg h5, if_neg h6, if_pos h7]
        rw [e0]
        exact W.iret (v := (0 : Int32)) hx hb hr (fun t ht hW => ⟨⟨(0 : Int32), (), rfl, rfl, by rw [ht]; exact hP, va_K.moved hW.alike hK, hD⟩, hS.F ht⟩) hS.2.2 d_MO_holds_65
      · refine lv_iconst (v := 1) hx hb d_MO_holds_60 (by decide) ?_
        refine lv_goto (tgt := 65) hx hb d_MO_holds_61 (by decide) ?_
        have e0 : (f_MO_holds th le lo da si fl) = (1 : Int32) := by rw [f_MO_holds, if_neg h5, if_neg h6, if_neg h7]
        rw [e0]
        exact W.iret (v := (1 : Int32)) hx hb hr (fun t ht hW => ⟨⟨(1 : Int32), (), rfl, rfl, by rw [ht]; exact hP, va_K.moved hW.alike hK, hD⟩, hS.F ht⟩) hS.2.2 d_MO_holds_65
    · refine lv_iconst (v := 0) hx hb d_MO_holds_30 (by decide) ?_
      have e0 : (f_MO_holds th le lo da si fl) = (0 : Int32) := by rw [f_MO_holds, if_neg h5, if_pos h6]
      rw [e0]
      exact W.iret (v := (0 : Int32)) hx hb hr (fun t ht hW => ⟨⟨(0 : Int32), (), rfl, rfl, by rw [ht]; exact hP, va_K.moved hW.alike hK, hD⟩, hS.F ht⟩) hS.2.2 d_MO_holds_31
  · refine lv_aload_n hx hb d_MO_holds_8 rfl (lv_at hl 0 rfl) ?_
    refine lv_iconst (v := 1) hx hb d_MO_holds_9 (by decide) ?_
    have hPc := hP.sub (ws' := [(h, .inr (5, [.int th, .ref af, .ref ak, .ref ar, .ref ag, .int le, .int lo, .int da, .ref ad, .ref ac, .ref ab, .int si, .ref ax, .ref aw, .ref an, .ref av, .ref aa])), (af, .inl (cI, 70, .inl fl))]) [0, 1] rfl
    have hDc := hD.sub (ws' := [(h, .inr (5, [.int th, .ref af, .ref ak, .ref ar, .ref ag, .int le, .int lo, .int da, .ref ad, .ref ac, .ref ab, .int si, .ref ax, .ref aw, .ref an, .ref av, .ref aa])), (af, .inl (cI, 70, .inl fl))]) [0, 1] (by decide) rfl
    have hFc := va_free (wc := [(h, .inr (5, [.int th, .ref af, .ref ak, .ref ar, .ref ag, .int le, .int lo, .int da, .ref ad, .ref ac, .ref ab, .int si, .ref ax, .ref aw, .ref an, .ref av, .ref aa])), (af, .inl (cI, 70, .inl fl))]) hD hS hA [0, 1] rfl
    refine va_calli (va_runV (As := [.int (1 : Int32)]) (rest := []) ⟨hx, hb, hml, hown, hts⟩ (c_MO_valid l dC dI cI cJ h af ak ar ag ad ac ab ax aw an av aa _ (1 : Int32) th le lo da si fl (by decide)) ⟨callB_of 1 hts (bc_good gw_578) rfl rfl rfl (hts _ gw_6) (hts _ gw_576) (by decide +kernel) ⟨Nat.le_of_ble_eq_true rfl, Nat.le_of_ble_eq_true rfl⟩, (hts _ gw_577), (hts _ gw_708)⟩ ⟨bc_blind, va_recv (q0 := 0) hK hP (q := (R_MO, F_MO, 17)) rfl rfl, fun U hU hW => ⟨rfl, bc_give hPc hDc hK hE hS hFc U hU hW⟩⟩ rfl rfl hl.1 rfl (lv_room (Nat.le_of_ble_eq_true rfl)) d_MO_holds_10 ⟨Nat.le_of_ble_eq_true rfl, Nat.le_of_ble_eq_true rfl⟩) hS (fun q _ h => hFc q h) hFc (fun r u t H9 locs ht hvm hp hB hz1 hk1 hS => ?_)
    subst hp
    obtain ⟨hP, hD⟩ := va_join (wr := []) (w1 := [(h, .inr (5, [.int th, .ref af, .ref ak, .ref ar, .ref ag, .int le, .int lo, .int da, .ref ad, .ref ac, .ref ab, .int si, .ref ax, .ref aw, .ref an, .ref av, .ref aa])), (af, .inl (cI, 70, .inl fl))]) hP hD [0, 1] [] rfl rfl (by decide) (by decide) hk1 hFc (ht ▸ hB.1) hB.2.2
    have hP := hP.sub (ws' := [(h, .inr (5, [.int th, .ref af, .ref ak, .ref ar, .ref ag, .int le, .int lo, .int da, .ref ad, .ref ac, .ref ab, .int si, .ref ax, .ref aw, .ref an, .ref av, .ref aa])), (af, .inl (cI, 70, .inl fl))]) [0, 1] rfl
    have hD := hD.sub (ws' := [(h, .inr (5, [.int th, .ref af, .ref ak, .ref ar, .ref ag, .int le, .int lo, .int da, .ref ad, .ref ac, .ref ab, .int si, .ref ax, .ref aw, .ref an, .ref av, .ref aa])), (af, .inl (cI, 70, .inl fl))]) [0, 1] (by decide) rfl
    generalize H9 = H at hP hS ⊢
    refine lv_if_eq (tgt := 20) hx hb d_MO_holds_13 (by decide) (fun h8 => ?_) (fun h8 => ?_)
    · refine lv_iconst (v := (-1)) hx hb d_MO_holds_20 (by decide) ?_
      have e0 : (f_MO_holds th le lo da si fl) = (-1 : Int32) := by rw [f_MO_holds, if_pos h5, if_pos h8]
      rw [e0]
      exact W.iret (v := (-1 : Int32)) hx hb hr (fun t ht hW => ⟨⟨(-1 : Int32), (), rfl, rfl, by rw [ht]; exact hP, va_K.moved hW.alike hK, hD⟩, hS.F ht⟩) hS.2.2 d_MO_holds_21
    · refine lv_iconst (v := 1) hx hb d_MO_holds_16 (by decide) ?_
      refine lv_goto (tgt := 21) hx hb d_MO_holds_17 (by decide) ?_
      have e0 : (f_MO_holds th le lo da si fl) = (1 : Int32) := by rw [f_MO_holds, if_pos h5, if_neg h8]
      rw [e0]
      exact W.iret (v := (1 : Int32)) hx hb hr (fun t ht hW => ⟨⟨(1 : Int32), (), rfl, rfl, by rw [ht]; exact hP, va_K.moved hW.alike hK, hD⟩, hS.F ht⟩) hS.2.2 d_MO_holds_21
-- MO_stateNow
theorem d_MO_stateNow_0 : decode prog_8_method_14_code 0 = .ok (.aload_n 0, 1) := by decide +kernel
theorem d_MO_stateNow_1 : decode prog_8_method_14_code 1 = .ok (.invokevirtual 225, 3) := by decide +kernel
theorem d_MO_stateNow_4 : decode prog_8_method_14_code 4 = .ok (.istore_n 1, 1) := by decide +kernel
theorem d_MO_stateNow_5 : decode prog_8_method_14_code 5 = .ok (.iload_n 1, 1) := by decide +kernel
theorem d_MO_stateNow_6 : decode prog_8_method_14_code 6 = .ok (.ifCond .ge 7, 3) := by decide +kernel
theorem d_MO_stateNow_9 : decode prog_8_method_14_code 9 = .ok (.iconst 0, 1) := by decide +kernel
theorem d_MO_stateNow_10 : decode prog_8_method_14_code 10 = .ok (.goto 14, 3) := by decide +kernel
theorem d_MO_stateNow_13 : decode prog_8_method_14_code 13 = .ok (.aload_n 0, 1) := by decide +kernel
theorem d_MO_stateNow_14 : decode prog_8_method_14_code 14 = .ok (.getfield 7, 3) := by decide +kernel
theorem d_MO_stateNow_17 : decode prog_8_method_14_code 17 = .ok (.bipush 65, 2) := by decide +kernel
theorem d_MO_stateNow_19 : decode prog_8_method_14_code 19 = .ok (.iconst 3, 1) := by decide +kernel
theorem d_MO_stateNow_20 : decode prog_8_method_14_code 20 = .ok (.iload_n 1, 1) := by decide +kernel
theorem d_MO_stateNow_21 : decode prog_8_method_14_code 21 = .ok (.imul, 1) := by decide +kernel
theorem d_MO_stateNow_22 : decode prog_8_method_14_code 22 = .ok (.iadd, 1) := by decide +kernel
theorem d_MO_stateNow_23 : decode prog_8_method_14_code 23 = .ok (.iaload, 1) := by decide +kernel
theorem d_MO_stateNow_24 : decode prog_8_method_14_code 24 = .ok (.ireturn, 1) := by decide +kernel
def y_MO_stateNow : MethodName := ⟨"BootChainModel", "stateNow", "()I"⟩
def ws_MO_stateNow : List Cond := .code y_MO_stateNow prog_8_method_14_code 2 (some .int) :: bc_G
def f_MO_stateNow (th : Int32) (le : Int32) (lo : Int32) (da : Int32) (si : Int32) (fl : Nat → Int32) : Int32 := if 0 ≤ (f_MO_holds th le lo da si fl) then (fl (((65 : Int32) + ((3 : Int32) * (f_MO_holds th le lo da si fl)))).toNatClampNeg) else (0 : Int32)
set_option maxHeartbeats 4000000 in
set_option maxRecDepth 100000 in
theorem c_MO_stateNow (l : Launch) (dC : Nat → ClassId) (dI : Nat → Nat → Nat) (cI cJ : ClassId) (h af ak ar ag ad ac ab ax aw an av aa : Nat) (sz : Nat) (th : Int32) (le : Int32) (lo : Int32) (da : Int32) (si : Int32) (fl : Nat → Int32) : Met l y_MO_stateNow ws_MO_stateNow ({ frames := 2, cells := 0, slots := 0, locals := 41 } : Room) (va_Pc [.ref h] (bc_pre (dC, dI) cI cJ [(h, .inr (5, [.int th, .ref af, .ref ak, .ref ar, .ref ag, .int le, .int lo, .int da, .ref ad, .ref ac, .ref ab, .int si, .ref ax, .ref aw, .ref an, .ref av, .ref aa])), (af, .inl (cI, 70, .inl fl))] sz)) (va_Qi (fun (r : Int32) (_ : Unit) => r = (f_MO_stateNow th le lo da si fl)) (fun _ => bc_post (dC, dI) cI cJ (va_A [(h, .inr (5, [.int th, .ref af, .ref ak, .ref ar, .ref ag, .int le, .int lo, .int da, .ref ad, .ref ac, .ref ab, .int si, .ref ax, .ref aw, .ref an, .ref av, .ref aa])), (af, .inl (cI, 70, .inl fl))] sz) [(h, .inr (5, [.int th, .ref af, .ref ak, .ref ar, .ref ag, .int le, .int lo, .int da, .ref ad, .ref ac, .ref ab, .int si, .ref ax, .ref aw, .ref an, .ref av, .ref aa])), (af, .inl (cI, 70, .inl fl))]) (va_A [(h, .inr (5, [.int th, .ref af, .ref ak, .ref ar, .ref ag, .int le, .int lo, .int da, .ref ad, .ref ac, .ref ab, .int si, .ref ax, .ref aw, .ref an, .ref av, .ref aa])), (af, .inl (cI, 70, .inl fl))] sz)) 0 0 (va_A [(h, .inr (5, [.int th, .ref af, .ref ak, .ref ar, .ref ag, .int le, .int lo, .int da, .ref ad, .ref ac, .ref ab, .int si, .ref ax, .ref aw, .ref an, .ref av, .ref aa])), (af, .inl (cI, 70, .inl fl))] sz) := by
  refine Met.ofW (cc := prog_8_method_14_code) (maxL := 2) (ret := (some .int)) (by decide) rfl ?_
  intro p e s m args below meth c s₁ B hml hv
  obtain ⟨rfl, hsz, hP, hK, hD0, hE⟩ := hv
  have hx := B.exec
  have hb := B.bytes
  have hr := B.returns
  have hts : ∀ w ∈ bc_G, w.before ([.ref h] : List Value).toArray s = true := fun w h => atoms_spec (ws := ws_MO_stateNow) B.pre w (List.mem_cons_of_mem _ h)
  have hown : s.vm.findClass "BootChainModel" = some m.cls := findClass_of_methodNamed B.named
  have hlocks := B.notSynchronized
  subst hsz
  have hD := hD0.self (sz := s.heap.size)
  generalize hAe : va_A [(h, .inr (5, [.int th, .ref af, .ref ak, .ref ar, .ref ag, .int le, .int lo, .int da, .ref ad, .ref ac, .ref ab, .int si, .ref ax, .ref aw, .ref an, .ref av, .ref aa])), (af, .inl (cI, 70, .inl fl))] s.heap.size = A at hD hE ⊢
  have hA : ∀ q : Nat, s.heap.size ≤ q → A q := fun q h => by rw [← hAe]; exact Or.inr h
  have hS : va_S A s.heap s.heap [] := va_S.rf
  have hl := lv_entry ([.ref h]) (n := 2) (Nat.le_of_ble_eq_true rfl)
  rw [lg_entry_eq]
  generalize (lg_sl ([.ref h]) ++ List.replicate (2 - (lg_sl ([.ref h])).length) Slot.unset).toArray = ls at hl ⊢
  have hl : lv_has ls 2 [(0, .ref h)] := hl
  refine lv_aload_n hx hb d_MO_stateNow_0 rfl (lv_at hl 0 rfl) ?_
  have hPc := hP.sub (ws' := [(h, .inr (5, [.int th, .ref af, .ref ak, .ref ar, .ref ag, .int le, .int lo, .int da, .ref ad, .ref ac, .ref ab, .int si, .ref ax, .ref aw, .ref an, .ref av, .ref aa])), (af, .inl (cI, 70, .inl fl))]) [0, 1] rfl
  have hDc := hD.sub (ws' := [(h, .inr (5, [.int th, .ref af, .ref ak, .ref ar, .ref ag, .int le, .int lo, .int da, .ref ad, .ref ac, .ref ab, .int si, .ref ax, .ref aw, .ref an, .ref av, .ref aa])), (af, .inl (cI, 70, .inl fl))]) [0, 1] (by decide) rfl
  have hFc := va_free (wc := [(h, .inr (5, [.int th, .ref af, .ref ak, .ref ar, .ref ag, .int le, .int lo, .int da, .ref ad, .ref ac, .ref ab, .int si, .ref ax, .ref aw, .ref an, .ref av, .ref aa])), (af, .inl (cI, 70, .inl fl))]) hD hS hA [0, 1] rfl
  refine va_calli (va_runV (As := []) (rest := []) ⟨hx, hb, hml, hown, hts⟩ (c_MO_holds l dC dI cI cJ h af ak ar ag ad ac ab ax aw an av aa _ th le lo da si fl) ⟨callB_of 0 hts (bc_good gw_575) rfl rfl rfl (hts _ gw_6) (hts _ gw_573) (by decide +kernel) ⟨Nat.le_of_ble_eq_true rfl, Nat.le_of_ble_eq_true rfl⟩, (hts _ gw_574), (hts _ gw_707)⟩ ⟨bc_blind, va_recv (q0 := 0) hK hP (q := (R_MO, F_MO, 17)) rfl rfl, fun U hU hW => ⟨rfl, bc_give hPc hDc hK hE hS hFc U hU hW⟩⟩ rfl rfl hl.1 rfl (lv_room (Nat.le_of_ble_eq_true rfl)) d_MO_stateNow_1 ⟨Nat.le_of_ble_eq_true rfl, Nat.le_of_ble_eq_true rfl⟩) hS (fun q _ h => hFc q h) hFc (fun r u t H9 locs ht hvm hp hB hz1 hk1 hS => ?_)
  subst hp
  obtain ⟨hP, hD⟩ := va_join (wr := []) (w1 := [(h, .inr (5, [.int th, .ref af, .ref ak, .ref ar, .ref ag, .int le, .int lo, .int da, .ref ad, .ref ac, .ref ab, .int si, .ref ax, .ref aw, .ref an, .ref av, .ref aa])), (af, .inl (cI, 70, .inl fl))]) hP hD [0, 1] [] rfl rfl (by decide) (by decide) hk1 hFc (ht ▸ hB.1) hB.2.2
  have hP := hP.sub (ws' := [(h, .inr (5, [.int th, .ref af, .ref ak, .ref ar, .ref ag, .int le, .int lo, .int da, .ref ad, .ref ac, .ref ab, .int si, .ref ax, .ref aw, .ref an, .ref av, .ref aa])), (af, .inl (cI, 70, .inl fl))]) [0, 1] rfl
  have hD := hD.sub (ws' := [(h, .inr (5, [.int th, .ref af, .ref ak, .ref ar, .ref ag, .int le, .int lo, .int da, .ref ad, .ref ac, .ref ab, .int si, .ref ax, .ref aw, .ref an, .ref av, .ref aa])), (af, .inl (cI, 70, .inl fl))]) [0, 1] (by decide) rfl
  generalize H9 = H at hP hS ⊢
  refine lv_istore_n (lv' := [(1, .int (f_MO_holds th le lo da si fl)), (0, .ref h)]) hx hb d_MO_stateNow_4 rfl hl (by decide) rfl (fun ls hl => ?_)
  refine lv_iload_n hx hb d_MO_stateNow_5 rfl (lv_at hl 0 rfl) ?_
  refine lv_if_ge (tgt := 13) hx hb d_MO_stateNow_6 (by decide) (fun h2 => ?_) (fun h2 => ?_)
  · refine lv_aload_n hx hb d_MO_stateNow_13 rfl (lv_at hl 1 rfl) ?_
    refine va_get (D := (dC, dI)) (ci := 5) (v := .ref af) (C := R_MO) (T := F_MO) (N := 17) hx hb hts in_MO hown hK hP 0 rfl rfl 1 (by decide) (hts _ gw_519) (fun _ h9 => h9) rfl d_MO_stateNow_14 ?_
    refine lv_bipush (v := 65) hx hb d_MO_stateNow_17 (by decide) ?_
    refine lv_iconst (v := 3) hx hb d_MO_stateNow_19 (by decide) ?_
    refine lv_iload_n hx hb d_MO_stateNow_20 rfl (lv_at hl 0 rfl) ?_
    refine lv_imul hx hb d_MO_stateNow_21 ?_
    refine lv_iadd hx hb d_MO_stateNow_22 ?_
    refine va_iald hx hb hK hP 1 0 rfl rfl (by exact ix_h65 65 (p_holds3 (p_holds _ _ _ _ _ _) (by assumption)) (by decide)) d_MO_stateNow_23 ?_
    have e0 : (f_MO_stateNow th le lo da si fl) = (fl (((65 : Int32) + ((3 : Int32) * (f_MO_holds th le lo da si fl)))).toNatClampNeg) := by rw [f_MO_stateNow, if_pos h2]
    rw [e0]
    exact W.iret (v := (fl (((65 : Int32) + ((3 : Int32) * (f_MO_holds th le lo da si fl)))).toNatClampNeg)) hx hb hr (fun t ht hW => ⟨⟨(fl (((65 : Int32) + ((3 : Int32) * (f_MO_holds th le lo da si fl)))).toNatClampNeg), (), rfl, rfl, by rw [ht]; exact hP, va_K.moved hW.alike hK, hD⟩, hS.F ht⟩) hS.2.2 d_MO_stateNow_24
  · refine lv_iconst (v := 0) hx hb d_MO_stateNow_9 (by decide) ?_
    refine lv_goto (tgt := 24) hx hb d_MO_stateNow_10 (by decide) ?_
    have e0 : (f_MO_stateNow th le lo da si fl) = (0 : Int32) := by rw [f_MO_stateNow, if_neg h2]
    rw [e0]
    exact W.iret (v := (0 : Int32)) hx hb hr (fun t ht hW => ⟨⟨(0 : Int32), (), rfl, rfl, by rw [ht]; exact hP, va_K.moved hW.alike hK, hD⟩, hS.F ht⟩) hS.2.2 d_MO_stateNow_24
-- MO_writeState
theorem d_MO_writeState_0 : decode prog_8_method_15_code 0 = .ok (.aload_n 0, 1) := by decide +kernel
theorem d_MO_writeState_1 : decode prog_8_method_15_code 1 = .ok (.invokevirtual 225, 3) := by decide +kernel
theorem d_MO_writeState_4 : decode prog_8_method_15_code 4 = .ok (.istore_n 2, 1) := by decide +kernel
theorem d_MO_writeState_5 : decode prog_8_method_15_code 5 = .ok (.iload_n 2, 1) := by decide +kernel
theorem d_MO_writeState_6 : decode prog_8_method_15_code 6 = .ok (.ifCond .ge 7, 3) := by decide +kernel
theorem d_MO_writeState_9 : decode prog_8_method_15_code 9 = .ok (.iconst 1, 1) := by decide +kernel
theorem d_MO_writeState_10 : decode prog_8_method_15_code 10 = .ok (.goto 16, 3) := by decide +kernel
theorem d_MO_writeState_13 : decode prog_8_method_15_code 13 = .ok (.aload_n 0, 1) := by decide +kernel
theorem d_MO_writeState_14 : decode prog_8_method_15_code 14 = .ok (.getfield 7, 3) := by decide +kernel
theorem d_MO_writeState_17 : decode prog_8_method_15_code 17 = .ok (.bipush 64, 2) := by decide +kernel
theorem d_MO_writeState_19 : decode prog_8_method_15_code 19 = .ok (.iconst 3, 1) := by decide +kernel
theorem d_MO_writeState_20 : decode prog_8_method_15_code 20 = .ok (.iload_n 2, 1) := by decide +kernel
theorem d_MO_writeState_21 : decode prog_8_method_15_code 21 = .ok (.imul, 1) := by decide +kernel
theorem d_MO_writeState_22 : decode prog_8_method_15_code 22 = .ok (.iadd, 1) := by decide +kernel
theorem d_MO_writeState_23 : decode prog_8_method_15_code 23 = .ok (.iaload, 1) := by decide +kernel
theorem d_MO_writeState_24 : decode prog_8_method_15_code 24 = .ok (.iconst 1, 1) := by decide +kernel
theorem d_MO_writeState_25 : decode prog_8_method_15_code 25 = .ok (.iadd, 1) := by decide +kernel
theorem d_MO_writeState_26 : decode prog_8_method_15_code 26 = .ok (.istore_n 3, 1) := by decide +kernel
theorem d_MO_writeState_27 : decode prog_8_method_15_code 27 = .ok (.iload_n 2, 1) := by decide +kernel
theorem d_MO_writeState_28 : decode prog_8_method_15_code 28 = .ok (.ifCond .ne 8, 3) := by decide +kernel
theorem d_MO_writeState_31 : decode prog_8_method_15_code 31 = .ok (.bipush 67, 2) := by decide +kernel
theorem d_MO_writeState_33 : decode prog_8_method_15_code 33 = .ok (.goto 5, 3) := by decide +kernel
theorem d_MO_writeState_36 : decode prog_8_method_15_code 36 = .ok (.bipush 64, 2) := by decide +kernel
theorem d_MO_writeState_38 : decode prog_8_method_15_code 38 = .ok (.istore 4, 2) := by decide +kernel
theorem d_MO_writeState_40 : decode prog_8_method_15_code 40 = .ok (.aload_n 0, 1) := by decide +kernel
theorem d_MO_writeState_41 : decode prog_8_method_15_code 41 = .ok (.iload 4, 2) := by decide +kernel
theorem d_MO_writeState_43 : decode prog_8_method_15_code 43 = .ok (.iconst 2, 1) := by decide +kernel
theorem d_MO_writeState_44 : decode prog_8_method_15_code 44 = .ok (.iadd, 1) := by decide +kernel
theorem d_MO_writeState_45 : decode prog_8_method_15_code 45 = .ok (.iconst 0, 1) := by decide +kernel
theorem d_MO_writeState_46 : decode prog_8_method_15_code 46 = .ok (.invokevirtual 229, 3) := by decide +kernel
theorem d_MO_writeState_49 : decode prog_8_method_15_code 49 = .ok (.aload_n 0, 1) := by decide +kernel
theorem d_MO_writeState_50 : decode prog_8_method_15_code 50 = .ok (.iload 4, 2) := by decide +kernel
theorem d_MO_writeState_52 : decode prog_8_method_15_code 52 = .ok (.iload_n 3, 1) := by decide +kernel
theorem d_MO_writeState_53 : decode prog_8_method_15_code 53 = .ok (.invokevirtual 229, 3) := by decide +kernel
theorem d_MO_writeState_56 : decode prog_8_method_15_code 56 = .ok (.aload_n 0, 1) := by decide +kernel
theorem d_MO_writeState_57 : decode prog_8_method_15_code 57 = .ok (.iload 4, 2) := by decide +kernel
theorem d_MO_writeState_59 : decode prog_8_method_15_code 59 = .ok (.iconst 1, 1) := by decide +kernel
theorem d_MO_writeState_60 : decode prog_8_method_15_code 60 = .ok (.iadd, 1) := by decide +kernel
theorem d_MO_writeState_61 : decode prog_8_method_15_code 61 = .ok (.iload_n 1, 1) := by decide +kernel
theorem d_MO_writeState_62 : decode prog_8_method_15_code 62 = .ok (.invokevirtual 229, 3) := by decide +kernel
theorem d_MO_writeState_65 : decode prog_8_method_15_code 65 = .ok (.aload_n 0, 1) := by decide +kernel
theorem d_MO_writeState_66 : decode prog_8_method_15_code 66 = .ok (.iload 4, 2) := by decide +kernel
theorem d_MO_writeState_68 : decode prog_8_method_15_code 68 = .ok (.iconst 2, 1) := by decide +kernel
theorem d_MO_writeState_69 : decode prog_8_method_15_code 69 = .ok (.iadd, 1) := by decide +kernel
theorem d_MO_writeState_70 : decode prog_8_method_15_code 70 = .ok (.bipush 31, 2) := by decide +kernel
theorem d_MO_writeState_72 : decode prog_8_method_15_code 72 = .ok (.iload_n 3, 1) := by decide +kernel
theorem d_MO_writeState_73 : decode prog_8_method_15_code 73 = .ok (.imul, 1) := by decide +kernel
theorem d_MO_writeState_74 : decode prog_8_method_15_code 74 = .ok (.iload_n 1, 1) := by decide +kernel
theorem d_MO_writeState_75 : decode prog_8_method_15_code 75 = .ok (.iadd, 1) := by decide +kernel
theorem d_MO_writeState_76 : decode prog_8_method_15_code 76 = .ok (.sipush 12345, 3) := by decide +kernel
theorem d_MO_writeState_79 : decode prog_8_method_15_code 79 = .ok (.iadd, 1) := by decide +kernel
theorem d_MO_writeState_80 : decode prog_8_method_15_code 80 = .ok (.invokevirtual 229, 3) := by decide +kernel
theorem d_MO_writeState_83 : decode prog_8_method_15_code 83 = .ok (.return_, 1) := by decide +kernel
def y_MO_writeState : MethodName := ⟨"BootChainModel", "writeState", "(I)V"⟩
def ws_MO_writeState : List Cond := .code y_MO_writeState prog_8_method_15_code 5 none :: bc_G
def f_MO_writeState_c4 (st : Int32) (th : Int32) (le : Int32) (lo : Int32) (da : Int32) (si : Int32) (fl : Nat → Int32) (x3 : Int32) (t0 : Int32) (y0_5 : Int32) (y0_6 : Int32) (y1 : Nat → Int32) (u1 : Int32 × Int32 × (Nat → Int32)) (u2 : Int32 × Int32 × (Nat → Int32)) (u3 : Int32 × Int32 × (Nat → Int32)) (u4 : Int32 × Int32 × (Nat → Int32)) : Int32 × Int32 × (Nat → Int32) := ((u4.1), (u4.2.1), (u4.2.2))
def f_MO_writeState_c3 (st : Int32) (th : Int32) (le : Int32) (lo : Int32) (da : Int32) (si : Int32) (fl : Nat → Int32) (x3 : Int32) (t0 : Int32) (y0_5 : Int32) (y0_6 : Int32) (y1 : Nat → Int32) (u1 : Int32 × Int32 × (Nat → Int32)) (u2 : Int32 × Int32 × (Nat → Int32)) (u3 : Int32 × Int32 × (Nat → Int32)) : Int32 × Int32 × (Nat → Int32) := f_MO_writeState_c4 st th le lo da si fl x3 t0 y0_5 y0_6 y1 u1 u2 u3 (f_MO_write (t0 + (2 : Int32)) ((((31 : Int32) * x3) + st) + (12345 : Int32)) th (u3.1) (u3.2.1) da si (u3.2.2))
def f_MO_writeState_c2 (st : Int32) (th : Int32) (le : Int32) (lo : Int32) (da : Int32) (si : Int32) (fl : Nat → Int32) (x3 : Int32) (t0 : Int32) (y0_5 : Int32) (y0_6 : Int32) (y1 : Nat → Int32) (u1 : Int32 × Int32 × (Nat → Int32)) (u2 : Int32 × Int32 × (Nat → Int32)) : Int32 × Int32 × (Nat → Int32) := f_MO_writeState_c3 st th le lo da si fl x3 t0 y0_5 y0_6 y1 u1 u2 (f_MO_write (t0 + (1 : Int32)) st th (u2.1) (u2.2.1) da si (u2.2.2))
def f_MO_writeState_c1 (st : Int32) (th : Int32) (le : Int32) (lo : Int32) (da : Int32) (si : Int32) (fl : Nat → Int32) (x3 : Int32) (t0 : Int32) (y0_5 : Int32) (y0_6 : Int32) (y1 : Nat → Int32) (u1 : Int32 × Int32 × (Nat → Int32)) : Int32 × Int32 × (Nat → Int32) := f_MO_writeState_c2 st th le lo da si fl x3 t0 y0_5 y0_6 y1 u1 (f_MO_write t0 x3 th (u1.1) (u1.2.1) da si (u1.2.2))
def f_MO_writeState_j38 (st : Int32) (th : Int32) (le : Int32) (lo : Int32) (da : Int32) (si : Int32) (fl : Nat → Int32) (x3 : Int32) (t0 : Int32) (y0_5 : Int32) (y0_6 : Int32) (y1 : Nat → Int32) : Int32 × Int32 × (Nat → Int32) := f_MO_writeState_c1 st th le lo da si fl x3 t0 y0_5 y0_6 y1 (f_MO_write (t0 + (2 : Int32)) (0 : Int32) th y0_5 y0_6 da si y1)
def f_MO_writeState_j26 (st : Int32) (th : Int32) (le : Int32) (lo : Int32) (da : Int32) (si : Int32) (fl : Nat → Int32) (x2 : Int32) (t0 : Int32) (y0_5 : Int32) (y0_6 : Int32) (y1 : Nat → Int32) : Int32 × Int32 × (Nat → Int32) := if x2 = 0 then f_MO_writeState_j38 st th le lo da si fl t0 (67 : Int32) y0_5 y0_6 y1 else f_MO_writeState_j38 st th le lo da si fl t0 (64 : Int32) y0_5 y0_6 y1
def f_MO_writeState (st : Int32) (th : Int32) (le : Int32) (lo : Int32) (da : Int32) (si : Int32) (fl : Nat → Int32) : Int32 × Int32 × (Nat → Int32) := if 0 ≤ (f_MO_holds th le lo da si fl) then f_MO_writeState_j26 st th le lo da si fl (f_MO_holds th le lo da si fl) ((fl (((64 : Int32) + ((3 : Int32) * (f_MO_holds th le lo da si fl)))).toNatClampNeg) + (1 : Int32)) le lo fl else f_MO_writeState_j26 st th le lo da si fl (f_MO_holds th le lo da si fl) (1 : Int32) le lo fl
set_option maxHeartbeats 4000000 in
set_option maxRecDepth 100000 in
theorem c_MO_writeState (l : Launch) (dC : Nat → ClassId) (dI : Nat → Nat → Nat) (cI cJ : ClassId) (h af ak ar ag ad ac ab ax aw an av aa : Nat) (sz : Nat) (st : Int32) (th : Int32) (le : Int32) (lo : Int32) (da : Int32) (si : Int32) (fl : Nat → Int32) : Met l y_MO_writeState ws_MO_writeState ({ frames := 2, cells := 0, slots := 0, locals := 41 } : Room) (va_Pc [.ref h, .int st] (bc_pre (dC, dI) cI cJ [(h, .inr (5, [.int th, .ref af, .ref ak, .ref ar, .ref ag, .int le, .int lo, .int da, .ref ad, .ref ac, .ref ab, .int si, .ref ax, .ref aw, .ref an, .ref av, .ref aa])), (af, .inl (cI, 70, .inl fl))] sz)) (va_Qv (fun (_ : Unit) => True) (fun _ => bc_post (dC, dI) cI cJ (va_A [(h, .inr (5, [.int th, .ref af, .ref ak, .ref ar, .ref ag, .int le, .int lo, .int da, .ref ad, .ref ac, .ref ab, .int si, .ref ax, .ref aw, .ref an, .ref av, .ref aa])), (af, .inl (cI, 70, .inl fl))] sz) [(h, .inr (5, [.int th, .ref af, .ref ak, .ref ar, .ref ag, .int (f_MO_writeState st th le lo da si fl).1, .int (f_MO_writeState st th le lo da si fl).2.1, .int da, .ref ad, .ref ac, .ref ab, .int si, .ref ax, .ref aw, .ref an, .ref av, .ref aa])), (af, .inl (cI, 70, .inl (f_MO_writeState st th le lo da si fl).2.2))]) (va_A [(h, .inr (5, [.int th, .ref af, .ref ak, .ref ar, .ref ag, .int le, .int lo, .int da, .ref ad, .ref ac, .ref ab, .int si, .ref ax, .ref aw, .ref an, .ref av, .ref aa])), (af, .inl (cI, 70, .inl fl))] sz)) 0 0 (va_A [(h, .inr (5, [.int th, .ref af, .ref ak, .ref ar, .ref ag, .int le, .int lo, .int da, .ref ad, .ref ac, .ref ab, .int si, .ref ax, .ref aw, .ref an, .ref av, .ref aa])), (af, .inl (cI, 70, .inl fl))] sz) := by
  refine Met.ofW (cc := prog_8_method_15_code) (maxL := 5) (ret := none) (by decide) rfl ?_
  intro p e s m args below meth c s₁ B hml hv
  obtain ⟨rfl, hsz, hP, hK, hD0, hE⟩ := hv
  have hx := B.exec
  have hb := B.bytes
  have hr := B.returns
  have hts : ∀ w ∈ bc_G, w.before ([.ref h, .int st] : List Value).toArray s = true := fun w h => atoms_spec (ws := ws_MO_writeState) B.pre w (List.mem_cons_of_mem _ h)
  have hown : s.vm.findClass "BootChainModel" = some m.cls := findClass_of_methodNamed B.named
  have hlocks := B.notSynchronized
  subst hsz
  have hD := hD0.self (sz := s.heap.size)
  generalize hAe : va_A [(h, .inr (5, [.int th, .ref af, .ref ak, .ref ar, .ref ag, .int le, .int lo, .int da, .ref ad, .ref ac, .ref ab, .int si, .ref ax, .ref aw, .ref an, .ref av, .ref aa])), (af, .inl (cI, 70, .inl fl))] s.heap.size = A at hD hE ⊢
  have hA : ∀ q : Nat, s.heap.size ≤ q → A q := fun q h => by rw [← hAe]; exact Or.inr h
  have hS : va_S A s.heap s.heap [] := va_S.rf
  have jn_38 : ∀ (x3 : Int32) (t0 : Int32) (y0_5 : Int32) (y0_6 : Int32) (y1 : Nat → Int32) (H : Heap) (locs : List Loc) (ls : Array Slot), (t0 = 67 ∨ t0 = 64) → lv_has ls 5 [(0, .ref h), (1, .int st), (3, .int x3)] → va_P (dC, dI) classes [(h, .inr (5, [.int th, .ref af, .ref ak, .ref ar, .ref ag, .int y0_5, .int y0_6, .int da, .ref ad, .ref ac, .ref ab, .int si, .ref ax, .ref aw, .ref an, .ref av, .ref aa])), (af, .inl (cI, 70, .inl y1))] H → va_D A [(h, .inr (5, [.int th, .ref af, .ref ak, .ref ar, .ref ag, .int y0_5, .int y0_6, .int da, .ref ad, .ref ac, .ref ab, .int si, .ref ax, .ref aw, .ref an, .ref av, .ref aa])), (af, .inl (cI, 70, .inl y1))] → va_S A s.heap H locs → W p l e (headSpec ws_MO_writeState ({ frames := 2, cells := 0, slots := 0, locals := 41 } : Room)).room s m ([.ref h, .int st] : List Value).toArray below meth c H locs 0 0 (MQ below (va_Qv (fun (_ : Unit) => True) (fun _ => bc_post (dC, dI) cI cJ A [(h, .inr (5, [.int th, .ref af, .ref ak, .ref ar, .ref ag, .int (f_MO_writeState_j38 st th le lo da si fl x3 t0 y0_5 y0_6 y1).1, .int (f_MO_writeState_j38 st th le lo da si fl x3 t0 y0_5 y0_6 y1).2.1, .int da, .ref ad, .ref ac, .ref ab, .int si, .ref ax, .ref aw, .ref an, .ref av, .ref aa])), (af, .inl (cI, 70, .inl (f_MO_writeState_j38 st th le lo da si fl x3 t0 y0_5 y0_6 y1).2.2))]) A) ([.ref h, .int st] : List Value).toArray s 0 0 A) (F0 m 38 ls [.int t0]) := by
    intro x3 t0 y0_5 y0_6 y1 H locs ls hJ hl hP hD hS
    refine lv_istore (lv' := [(4, .int t0), (0, .ref h), (1, .int st), (3, .int x3)]) hx hb d_MO_writeState_38 hl (by decide) rfl (fun ls hl => ?_)
    refine lv_aload_n hx hb d_MO_writeState_40 rfl (lv_at hl 1 rfl) ?_
    refine lv_iload hx hb d_MO_writeState_41 (lv_at hl 0 rfl) ?_
    refine lv_iconst (v := 2) hx hb d_MO_writeState_43 (by decide) ?_
    refine lv_iadd hx hb d_MO_writeState_44 ?_
    refine lv_iconst (v := 0) hx hb d_MO_writeState_45 (by decide) ?_
    have hPc := hP.sub (ws' := [(h, .inr (5, [.int th, .ref af, .ref ak, .ref ar, .ref ag, .int y0_5, .int y0_6, .int da, .ref ad, .ref ac, .ref ab, .int si, .ref ax, .ref aw, .ref an, .ref av, .ref aa])), (af, .inl (cI, 70, .inl y1))]) [0, 1] rfl
    have hDc := hD.sub (ws' := [(h, .inr (5, [.int th, .ref af, .ref ak, .ref ar, .ref ag, .int y0_5, .int y0_6, .int da, .ref ad, .ref ac, .ref ab, .int si, .ref ax, .ref aw, .ref an, .ref av, .ref aa])), (af, .inl (cI, 70, .inl y1))]) [0, 1] (by decide) rfl
    have hFc := va_free (wc := [(h, .inr (5, [.int th, .ref af, .ref ak, .ref ar, .ref ag, .int y0_5, .int y0_6, .int da, .ref ad, .ref ac, .ref ab, .int si, .ref ax, .ref aw, .ref an, .ref av, .ref aa])), (af, .inl (cI, 70, .inl y1))]) hD hS hA [0, 1] rfl
    refine va_callv (va_runV (As := [.int (t0 + (2 : Int32)), .int (0 : Int32)]) (rest := []) ⟨hx, hb, hml, hown, hts⟩ (c_MO_write l dC dI cI cJ h af ak ar ag ad ac ab ax aw an av aa _ (t0 + (2 : Int32)) (0 : Int32) th y0_5 y0_6 da si y1 (by rcases hJ with rfl | rfl <;> (unfold vp_in; decide +kernel))) ⟨callB_of 2 hts (bc_good gw_598) rfl rfl rfl (hts _ gw_6) (hts _ gw_596) (by decide +kernel) ⟨Nat.le_of_ble_eq_true rfl, Nat.le_of_ble_eq_true rfl⟩, (hts _ gw_597), (hts _ gw_713)⟩ ⟨bc_blind, va_recv (q0 := 0) hK hP (q := (R_MO, F_MO, 17)) rfl rfl, fun U hU hW => ⟨rfl, bc_give hPc hDc hK hE hS hFc U hU hW⟩⟩ rfl rfl hl.1 rfl (lv_room (Nat.le_of_ble_eq_true rfl)) d_MO_writeState_46 ⟨Nat.le_of_ble_eq_true rfl, Nat.le_of_ble_eq_true rfl⟩) hS (fun q _ h => hFc q h) hFc (fun u t H9 locs ht hvm hp hB hz1 hk1 hS => ?_)
    obtain ⟨hP, hD⟩ := va_join (wr := []) (w1 := [(h, .inr (5, [.int th, .ref af, .ref ak, .ref ar, .ref ag, .int ((f_MO_write (t0 + (2 : Int32)) (0 : Int32) th y0_5 y0_6 da si y1).1), .int ((f_MO_write (t0 + (2 : Int32)) (0 : Int32) th y0_5 y0_6 da si y1).2.1), .int da, .ref ad, .ref ac, .ref ab, .int si, .ref ax, .ref aw, .ref an, .ref av, .ref aa])), (af, .inl (cI, 70, .inl ((f_MO_write (t0 + (2 : Int32)) (0 : Int32) th y0_5 y0_6 da si y1).2.2)))]) hP hD [0, 1] [] rfl rfl (by decide) (by decide) hk1 hFc (ht ▸ hB.1) hB.2.2
    have hP := hP.sub (ws' := [(h, .inr (5, [.int th, .ref af, .ref ak, .ref ar, .ref ag, .int ((f_MO_write (t0 + (2 : Int32)) (0 : Int32) th y0_5 y0_6 da si y1).1), .int ((f_MO_write (t0 + (2 : Int32)) (0 : Int32) th y0_5 y0_6 da si y1).2.1), .int da, .ref ad, .ref ac, .ref ab, .int si, .ref ax, .ref aw, .ref an, .ref av, .ref aa])), (af, .inl (cI, 70, .inl ((f_MO_write (t0 + (2 : Int32)) (0 : Int32) th y0_5 y0_6 da si y1).2.2)))]) [0, 1] rfl
    have hD := hD.sub (ws' := [(h, .inr (5, [.int th, .ref af, .ref ak, .ref ar, .ref ag, .int ((f_MO_write (t0 + (2 : Int32)) (0 : Int32) th y0_5 y0_6 da si y1).1), .int ((f_MO_write (t0 + (2 : Int32)) (0 : Int32) th y0_5 y0_6 da si y1).2.1), .int da, .ref ad, .ref ac, .ref ab, .int si, .ref ax, .ref aw, .ref an, .ref av, .ref aa])), (af, .inl (cI, 70, .inl ((f_MO_write (t0 + (2 : Int32)) (0 : Int32) th y0_5 y0_6 da si y1).2.2)))]) [0, 1] (by decide) rfl
    generalize H9 = H at hP hS ⊢
    have e0 : (f_MO_writeState_j38 st th le lo da si fl x3 t0 y0_5 y0_6 y1) = f_MO_writeState_c1 st th le lo da si fl x3 t0 y0_5 y0_6 y1 (f_MO_write (t0 + (2 : Int32)) (0 : Int32) th y0_5 y0_6 da si y1) := by rw [f_MO_writeState_j38]
    rw [e0]
    generalize hu1 : (f_MO_write (t0 + (2 : Int32)) (0 : Int32) th y0_5 y0_6 da si y1) = u1 at hP hD ⊢
    have hP : va_P (dC, dI) classes [(h, .inr (5, [.int th, .ref af, .ref ak, .ref ar, .ref ag, .int (u1.1), .int (u1.2.1), .int da, .ref ad, .ref ac, .ref ab, .int si, .ref ax, .ref aw, .ref an, .ref av, .ref aa])), (af, .inl (cI, 70, .inl (u1.2.2)))] H := hP
    have hD : va_D A [(h, .inr (5, [.int th, .ref af, .ref ak, .ref ar, .ref ag, .int (u1.1), .int (u1.2.1), .int da, .ref ad, .ref ac, .ref ab, .int si, .ref ax, .ref aw, .ref an, .ref av, .ref aa])), (af, .inl (cI, 70, .inl (u1.2.2)))] := hD
    refine lv_aload_n hx hb d_MO_writeState_49 rfl (lv_at hl 1 rfl) ?_
    refine lv_iload hx hb d_MO_writeState_50 (lv_at hl 0 rfl) ?_
    refine lv_iload_n hx hb d_MO_writeState_52 rfl (lv_at hl 3 rfl) ?_
    have hPc := hP.sub (ws' := [(h, .inr (5, [.int th, .ref af, .ref ak, .ref ar, .ref ag, .int (u1.1), .int (u1.2.1), .int da, .ref ad, .ref ac, .ref ab, .int si, .ref ax, .ref aw, .ref an, .ref av, .ref aa])), (af, .inl (cI, 70, .inl (u1.2.2)))]) [0, 1] rfl
    have hDc := hD.sub (ws' := [(h, .inr (5, [.int th, .ref af, .ref ak, .ref ar, .ref ag, .int (u1.1), .int (u1.2.1), .int da, .ref ad, .ref ac, .ref ab, .int si, .ref ax, .ref aw, .ref an, .ref av, .ref aa])), (af, .inl (cI, 70, .inl (u1.2.2)))]) [0, 1] (by decide) rfl
    have hFc := va_free (wc := [(h, .inr (5, [.int th, .ref af, .ref ak, .ref ar, .ref ag, .int (u1.1), .int (u1.2.1), .int da, .ref ad, .ref ac, .ref ab, .int si, .ref ax, .ref aw, .ref an, .ref av, .ref aa])), (af, .inl (cI, 70, .inl (u1.2.2)))]) hD hS hA [0, 1] rfl
    refine va_callv (va_runV (As := [.int t0, .int x3]) (rest := []) ⟨hx, hb, hml, hown, hts⟩ (c_MO_write l dC dI cI cJ h af ak ar ag ad ac ab ax aw an av aa _ t0 x3 th (u1.1) (u1.2.1) da si (u1.2.2) (by rcases hJ with rfl | rfl <;> (unfold vp_in; decide +kernel))) ⟨callB_of 2 hts (bc_good gw_598) rfl rfl rfl (hts _ gw_6) (hts _ gw_596) (by decide +kernel) ⟨Nat.le_of_ble_eq_true rfl, Nat.le_of_ble_eq_true rfl⟩, (hts _ gw_597), (hts _ gw_713)⟩ ⟨bc_blind, va_recv (q0 := 0) hK hP (q := (R_MO, F_MO, 17)) rfl rfl, fun U hU hW => ⟨rfl, bc_give hPc hDc hK hE hS hFc U hU hW⟩⟩ rfl rfl hl.1 rfl (lv_room (Nat.le_of_ble_eq_true rfl)) d_MO_writeState_53 ⟨Nat.le_of_ble_eq_true rfl, Nat.le_of_ble_eq_true rfl⟩) hS (fun q _ h => hFc q h) hFc (fun u t H9 locs ht hvm hp hB hz1 hk1 hS => ?_)
    obtain ⟨hP, hD⟩ := va_join (wr := []) (w1 := [(h, .inr (5, [.int th, .ref af, .ref ak, .ref ar, .ref ag, .int ((f_MO_write t0 x3 th (u1.1) (u1.2.1) da si (u1.2.2)).1), .int ((f_MO_write t0 x3 th (u1.1) (u1.2.1) da si (u1.2.2)).2.1), .int da, .ref ad, .ref ac, .ref ab, .int si, .ref ax, .ref aw, .ref an, .ref av, .ref aa])), (af, .inl (cI, 70, .inl ((f_MO_write t0 x3 th (u1.1) (u1.2.1) da si (u1.2.2)).2.2)))]) hP hD [0, 1] [] rfl rfl (by decide) (by decide) hk1 hFc (ht ▸ hB.1) hB.2.2
    have hP := hP.sub (ws' := [(h, .inr (5, [.int th, .ref af, .ref ak, .ref ar, .ref ag, .int ((f_MO_write t0 x3 th (u1.1) (u1.2.1) da si (u1.2.2)).1), .int ((f_MO_write t0 x3 th (u1.1) (u1.2.1) da si (u1.2.2)).2.1), .int da, .ref ad, .ref ac, .ref ab, .int si, .ref ax, .ref aw, .ref an, .ref av, .ref aa])), (af, .inl (cI, 70, .inl ((f_MO_write t0 x3 th (u1.1) (u1.2.1) da si (u1.2.2)).2.2)))]) [0, 1] rfl
    have hD := hD.sub (ws' := [(h, .inr (5, [.int th, .ref af, .ref ak, .ref ar, .ref ag, .int ((f_MO_write t0 x3 th (u1.1) (u1.2.1) da si (u1.2.2)).1), .int ((f_MO_write t0 x3 th (u1.1) (u1.2.1) da si (u1.2.2)).2.1), .int da, .ref ad, .ref ac, .ref ab, .int si, .ref ax, .ref aw, .ref an, .ref av, .ref aa])), (af, .inl (cI, 70, .inl ((f_MO_write t0 x3 th (u1.1) (u1.2.1) da si (u1.2.2)).2.2)))]) [0, 1] (by decide) rfl
    generalize H9 = H at hP hS ⊢
    have e0 : (f_MO_writeState_c1 st th le lo da si fl x3 t0 y0_5 y0_6 y1 u1) = f_MO_writeState_c2 st th le lo da si fl x3 t0 y0_5 y0_6 y1 u1 (f_MO_write t0 x3 th (u1.1) (u1.2.1) da si (u1.2.2)) := by rw [f_MO_writeState_c1]
    rw [e0]
    generalize hu2 : (f_MO_write t0 x3 th (u1.1) (u1.2.1) da si (u1.2.2)) = u2 at hP hD ⊢
    have hP : va_P (dC, dI) classes [(h, .inr (5, [.int th, .ref af, .ref ak, .ref ar, .ref ag, .int (u2.1), .int (u2.2.1), .int da, .ref ad, .ref ac, .ref ab, .int si, .ref ax, .ref aw, .ref an, .ref av, .ref aa])), (af, .inl (cI, 70, .inl (u2.2.2)))] H := hP
    have hD : va_D A [(h, .inr (5, [.int th, .ref af, .ref ak, .ref ar, .ref ag, .int (u2.1), .int (u2.2.1), .int da, .ref ad, .ref ac, .ref ab, .int si, .ref ax, .ref aw, .ref an, .ref av, .ref aa])), (af, .inl (cI, 70, .inl (u2.2.2)))] := hD
    refine lv_aload_n hx hb d_MO_writeState_56 rfl (lv_at hl 1 rfl) ?_
    refine lv_iload hx hb d_MO_writeState_57 (lv_at hl 0 rfl) ?_
    refine lv_iconst (v := 1) hx hb d_MO_writeState_59 (by decide) ?_
    refine lv_iadd hx hb d_MO_writeState_60 ?_
    refine lv_iload_n hx hb d_MO_writeState_61 rfl (lv_at hl 2 rfl) ?_
    have hPc := hP.sub (ws' := [(h, .inr (5, [.int th, .ref af, .ref ak, .ref ar, .ref ag, .int (u2.1), .int (u2.2.1), .int da, .ref ad, .ref ac, .ref ab, .int si, .ref ax, .ref aw, .ref an, .ref av, .ref aa])), (af, .inl (cI, 70, .inl (u2.2.2)))]) [0, 1] rfl
    have hDc := hD.sub (ws' := [(h, .inr (5, [.int th, .ref af, .ref ak, .ref ar, .ref ag, .int (u2.1), .int (u2.2.1), .int da, .ref ad, .ref ac, .ref ab, .int si, .ref ax, .ref aw, .ref an, .ref av, .ref aa])), (af, .inl (cI, 70, .inl (u2.2.2)))]) [0, 1] (by decide) rfl
    have hFc := va_free (wc := [(h, .inr (5, [.int th, .ref af, .ref ak, .ref ar, .ref ag, .int (u2.1), .int (u2.2.1), .int da, .ref ad, .ref ac, .ref ab, .int si, .ref ax, .ref aw, .ref an, .ref av, .ref aa])), (af, .inl (cI, 70, .inl (u2.2.2)))]) hD hS hA [0, 1] rfl
    refine va_callv (va_runV (As := [.int (t0 + (1 : Int32)), .int st]) (rest := []) ⟨hx, hb, hml, hown, hts⟩ (c_MO_write l dC dI cI cJ h af ak ar ag ad ac ab ax aw an av aa _ (t0 + (1 : Int32)) st th (u2.1) (u2.2.1) da si (u2.2.2) (by rcases hJ with rfl | rfl <;> (unfold vp_in; decide +kernel))) ⟨callB_of 2 hts (bc_good gw_598) rfl rfl rfl (hts _ gw_6) (hts _ gw_596) (by decide +kernel) ⟨Nat.le_of_ble_eq_true rfl, Nat.le_of_ble_eq_true rfl⟩, (hts _ gw_597), (hts _ gw_713)⟩ ⟨bc_blind, va_recv (q0 := 0) hK hP (q := (R_MO, F_MO, 17)) rfl rfl, fun U hU hW => ⟨rfl, bc_give hPc hDc hK hE hS hFc U hU hW⟩⟩ rfl rfl hl.1 rfl (lv_room (Nat.le_of_ble_eq_true rfl)) d_MO_writeState_62 ⟨Nat.le_of_ble_eq_true rfl, Nat.le_of_ble_eq_true rfl⟩) hS (fun q _ h => hFc q h) hFc (fun u t H9 locs ht hvm hp hB hz1 hk1 hS => ?_)
    obtain ⟨hP, hD⟩ := va_join (wr := []) (w1 := [(h, .inr (5, [.int th, .ref af, .ref ak, .ref ar, .ref ag, .int ((f_MO_write (t0 + (1 : Int32)) st th (u2.1) (u2.2.1) da si (u2.2.2)).1), .int ((f_MO_write (t0 + (1 : Int32)) st th (u2.1) (u2.2.1) da si (u2.2.2)).2.1), .int da, .ref ad, .ref ac, .ref ab, .int si, .ref ax, .ref aw, .ref an, .ref av, .ref aa])), (af, .inl (cI, 70, .inl ((f_MO_write (t0 + (1 : Int32)) st th (u2.1) (u2.2.1) da si (u2.2.2)).2.2)))]) hP hD [0, 1] [] rfl rfl (by decide) (by decide) hk1 hFc (ht ▸ hB.1) hB.2.2
    have hP := hP.sub (ws' := [(h, .inr (5, [.int th, .ref af, .ref ak, .ref ar, .ref ag, .int ((f_MO_write (t0 + (1 : Int32)) st th (u2.1) (u2.2.1) da si (u2.2.2)).1), .int ((f_MO_write (t0 + (1 : Int32)) st th (u2.1) (u2.2.1) da si (u2.2.2)).2.1), .int da, .ref ad, .ref ac, .ref ab, .int si, .ref ax, .ref aw, .ref an, .ref av, .ref aa])), (af, .inl (cI, 70, .inl ((f_MO_write (t0 + (1 : Int32)) st th (u2.1) (u2.2.1) da si (u2.2.2)).2.2)))]) [0, 1] rfl
    have hD := hD.sub (ws' := [(h, .inr (5, [.int th, .ref af, .ref ak, .ref ar, .ref ag, .int ((f_MO_write (t0 + (1 : Int32)) st th (u2.1) (u2.2.1) da si (u2.2.2)).1), .int ((f_MO_write (t0 + (1 : Int32)) st th (u2.1) (u2.2.1) da si (u2.2.2)).2.1), .int da, .ref ad, .ref ac, .ref ab, .int si, .ref ax, .ref aw, .ref an, .ref av, .ref aa])), (af, .inl (cI, 70, .inl ((f_MO_write (t0 + (1 : Int32)) st th (u2.1) (u2.2.1) da si (u2.2.2)).2.2)))]) [0, 1] (by decide) rfl
    generalize H9 = H at hP hS ⊢
    have e0 : (f_MO_writeState_c2 st th le lo da si fl x3 t0 y0_5 y0_6 y1 u1 u2) = f_MO_writeState_c3 st th le lo da si fl x3 t0 y0_5 y0_6 y1 u1 u2 (f_MO_write (t0 + (1 : Int32)) st th (u2.1) (u2.2.1) da si (u2.2.2)) := by rw [f_MO_writeState_c2]
    rw [e0]
    generalize hu3 : (f_MO_write (t0 + (1 : Int32)) st th (u2.1) (u2.2.1) da si (u2.2.2)) = u3 at hP hD ⊢
    have hP : va_P (dC, dI) classes [(h, .inr (5, [.int th, .ref af, .ref ak, .ref ar, .ref ag, .int (u3.1), .int (u3.2.1), .int da, .ref ad, .ref ac, .ref ab, .int si, .ref ax, .ref aw, .ref an, .ref av, .ref aa])), (af, .inl (cI, 70, .inl (u3.2.2)))] H := hP
    have hD : va_D A [(h, .inr (5, [.int th, .ref af, .ref ak, .ref ar, .ref ag, .int (u3.1), .int (u3.2.1), .int da, .ref ad, .ref ac, .ref ab, .int si, .ref ax, .ref aw, .ref an, .ref av, .ref aa])), (af, .inl (cI, 70, .inl (u3.2.2)))] := hD
    refine lv_aload_n hx hb d_MO_writeState_65 rfl (lv_at hl 1 rfl) ?_
    refine lv_iload hx hb d_MO_writeState_66 (lv_at hl 0 rfl) ?_
    refine lv_iconst (v := 2) hx hb d_MO_writeState_68 (by decide) ?_
    refine lv_iadd hx hb d_MO_writeState_69 ?_
    refine lv_bipush (v := 31) hx hb d_MO_writeState_70 (by decide) ?_
    refine lv_iload_n hx hb d_MO_writeState_72 rfl (lv_at hl 3 rfl) ?_
    refine lv_imul hx hb d_MO_writeState_73 ?_
    refine lv_iload_n hx hb d_MO_writeState_74 rfl (lv_at hl 2 rfl) ?_
    refine lv_iadd hx hb d_MO_writeState_75 ?_
    refine lv_sipush (v := 12345) hx hb d_MO_writeState_76 (by decide) ?_
    refine lv_iadd hx hb d_MO_writeState_79 ?_
    have hPc := hP.sub (ws' := [(h, .inr (5, [.int th, .ref af, .ref ak, .ref ar, .ref ag, .int (u3.1), .int (u3.2.1), .int da, .ref ad, .ref ac, .ref ab, .int si, .ref ax, .ref aw, .ref an, .ref av, .ref aa])), (af, .inl (cI, 70, .inl (u3.2.2)))]) [0, 1] rfl
    have hDc := hD.sub (ws' := [(h, .inr (5, [.int th, .ref af, .ref ak, .ref ar, .ref ag, .int (u3.1), .int (u3.2.1), .int da, .ref ad, .ref ac, .ref ab, .int si, .ref ax, .ref aw, .ref an, .ref av, .ref aa])), (af, .inl (cI, 70, .inl (u3.2.2)))]) [0, 1] (by decide) rfl
    have hFc := va_free (wc := [(h, .inr (5, [.int th, .ref af, .ref ak, .ref ar, .ref ag, .int (u3.1), .int (u3.2.1), .int da, .ref ad, .ref ac, .ref ab, .int si, .ref ax, .ref aw, .ref an, .ref av, .ref aa])), (af, .inl (cI, 70, .inl (u3.2.2)))]) hD hS hA [0, 1] rfl
    refine va_callv (va_runV (As := [.int (t0 + (2 : Int32)), .int ((((31 : Int32) * x3) + st) + (12345 : Int32))]) (rest := []) ⟨hx, hb, hml, hown, hts⟩ (c_MO_write l dC dI cI cJ h af ak ar ag ad ac ab ax aw an av aa _ (t0 + (2 : Int32)) ((((31 : Int32) * x3) + st) + (12345 : Int32)) th (u3.1) (u3.2.1) da si (u3.2.2) (by rcases hJ with rfl | rfl <;> (unfold vp_in; decide +kernel))) ⟨callB_of 2 hts (bc_good gw_598) rfl rfl rfl (hts _ gw_6) (hts _ gw_596) (by decide +kernel) ⟨Nat.le_of_ble_eq_true rfl, Nat.le_of_ble_eq_true rfl⟩, (hts _ gw_597), (hts _ gw_713)⟩ ⟨bc_blind, va_recv (q0 := 0) hK hP (q := (R_MO, F_MO, 17)) rfl rfl, fun U hU hW => ⟨rfl, bc_give hPc hDc hK hE hS hFc U hU hW⟩⟩ rfl rfl hl.1 rfl (lv_room (Nat.le_of_ble_eq_true rfl)) d_MO_writeState_80 ⟨Nat.le_of_ble_eq_true rfl, Nat.le_of_ble_eq_true rfl⟩) hS (fun q _ h => hFc q h) hFc (fun u t H9 locs ht hvm hp hB hz1 hk1 hS => ?_)
    obtain ⟨hP, hD⟩ := va_join (wr := []) (w1 := [(h, .inr (5, [.int th, .ref af, .ref ak, .ref ar, .ref ag, .int ((f_MO_write (t0 + (2 : Int32)) ((((31 : Int32) * x3) + st) + (12345 : Int32)) th (u3.1) (u3.2.1) da si (u3.2.2)).1), .int ((f_MO_write (t0 + (2 : Int32)) ((((31 : Int32) * x3) + st) + (12345 : Int32)) th (u3.1) (u3.2.1) da si (u3.2.2)).2.1), .int da, .ref ad, .ref ac, .ref ab, .int si, .ref ax, .ref aw, .ref an, .ref av, .ref aa])), (af, .inl (cI, 70, .inl ((f_MO_write (t0 + (2 : Int32)) ((((31 : Int32) * x3) + st) + (12345 : Int32)) th (u3.1) (u3.2.1) da si (u3.2.2)).2.2)))]) hP hD [0, 1] [] rfl rfl (by decide) (by decide) hk1 hFc (ht ▸ hB.1) hB.2.2
    have hP := hP.sub (ws' := [(h, .inr (5, [.int th, .ref af, .ref ak, .ref ar, .ref ag, .int ((f_MO_write (t0 + (2 : Int32)) ((((31 : Int32) * x3) + st) + (12345 : Int32)) th (u3.1) (u3.2.1) da si (u3.2.2)).1), .int ((f_MO_write (t0 + (2 : Int32)) ((((31 : Int32) * x3) + st) + (12345 : Int32)) th (u3.1) (u3.2.1) da si (u3.2.2)).2.1), .int da, .ref ad, .ref ac, .ref ab, .int si, .ref ax, .ref aw, .ref an, .ref av, .ref aa])), (af, .inl (cI, 70, .inl ((f_MO_write (t0 + (2 : Int32)) ((((31 : Int32) * x3) + st) + (12345 : Int32)) th (u3.1) (u3.2.1) da si (u3.2.2)).2.2)))]) [0, 1] rfl
    have hD := hD.sub (ws' := [(h, .inr (5, [.int th, .ref af, .ref ak, .ref ar, .ref ag, .int ((f_MO_write (t0 + (2 : Int32)) ((((31 : Int32) * x3) + st) + (12345 : Int32)) th (u3.1) (u3.2.1) da si (u3.2.2)).1), .int ((f_MO_write (t0 + (2 : Int32)) ((((31 : Int32) * x3) + st) + (12345 : Int32)) th (u3.1) (u3.2.1) da si (u3.2.2)).2.1), .int da, .ref ad, .ref ac, .ref ab, .int si, .ref ax, .ref aw, .ref an, .ref av, .ref aa])), (af, .inl (cI, 70, .inl ((f_MO_write (t0 + (2 : Int32)) ((((31 : Int32) * x3) + st) + (12345 : Int32)) th (u3.1) (u3.2.1) da si (u3.2.2)).2.2)))]) [0, 1] (by decide) rfl
    generalize H9 = H at hP hS ⊢
    have e0 : (f_MO_writeState_c3 st th le lo da si fl x3 t0 y0_5 y0_6 y1 u1 u2 u3) = f_MO_writeState_c4 st th le lo da si fl x3 t0 y0_5 y0_6 y1 u1 u2 u3 (f_MO_write (t0 + (2 : Int32)) ((((31 : Int32) * x3) + st) + (12345 : Int32)) th (u3.1) (u3.2.1) da si (u3.2.2)) := by rw [f_MO_writeState_c3]
    rw [e0]
    generalize hu4 : (f_MO_write (t0 + (2 : Int32)) ((((31 : Int32) * x3) + st) + (12345 : Int32)) th (u3.1) (u3.2.1) da si (u3.2.2)) = u4 at hP hD ⊢
    have hP : va_P (dC, dI) classes [(h, .inr (5, [.int th, .ref af, .ref ak, .ref ar, .ref ag, .int (u4.1), .int (u4.2.1), .int da, .ref ad, .ref ac, .ref ab, .int si, .ref ax, .ref aw, .ref an, .ref av, .ref aa])), (af, .inl (cI, 70, .inl (u4.2.2)))] H := hP
    have hD : va_D A [(h, .inr (5, [.int th, .ref af, .ref ak, .ref ar, .ref ag, .int (u4.1), .int (u4.2.1), .int da, .ref ad, .ref ac, .ref ab, .int si, .ref ax, .ref aw, .ref an, .ref av, .ref aa])), (af, .inl (cI, 70, .inl (u4.2.2)))] := hD
    have e0 : (f_MO_writeState_c4 st th le lo da si fl x3 t0 y0_5 y0_6 y1 u1 u2 u3 u4) = ((u4.1), (u4.2.1), (u4.2.2)) := by rw [f_MO_writeState_c4]
    rw [e0]
    exact W.vret hx hb hr (fun t ht hW => ⟨⟨(), rfl, trivial, by rw [ht]; exact hP, va_K.moved hW.alike hK, hD⟩, hS.F ht⟩) hS.2.2 d_MO_writeState_83
  have jn_26 : ∀ (x2 : Int32) (t0 : Int32) (y0_5 : Int32) (y0_6 : Int32) (y1 : Nat → Int32) (H : Heap) (locs : List Loc) (ls : Array Slot), lv_has ls 5 [(0, .ref h), (1, .int st), (2, .int x2)] → va_P (dC, dI) classes [(h, .inr (5, [.int th, .ref af, .ref ak, .ref ar, .ref ag, .int y0_5, .int y0_6, .int da, .ref ad, .ref ac, .ref ab, .int si, .ref ax, .ref aw, .ref an, .ref av, .ref aa])), (af, .inl (cI, 70, .inl y1))] H → va_D A [(h, .inr (5, [.int th, .ref af, .ref ak, .ref ar, .ref ag, .int y0_5, .int y0_6, .int da, .ref ad, .ref ac, .ref ab, .int si, .ref ax, .ref aw, .ref an, .ref av, .ref aa])), (af, .inl (cI, 70, .inl y1))] → va_S A s.heap H locs → W p l e (headSpec ws_MO_writeState ({ frames := 2, cells := 0, slots := 0, locals := 41 } : Room)).room s m ([.ref h, .int st] : List Value).toArray below meth c H locs 0 0 (MQ below (va_Qv (fun (_ : Unit) => True) (fun _ => bc_post (dC, dI) cI cJ A [(h, .inr (5, [.int th, .ref af, .ref ak, .ref ar, .ref ag, .int (f_MO_writeState_j26 st th le lo da si fl x2 t0 y0_5 y0_6 y1).1, .int (f_MO_writeState_j26 st th le lo da si fl x2 t0 y0_5 y0_6 y1).2.1, .int da, .ref ad, .ref ac, .ref ab, .int si, .ref ax, .ref aw, .ref an, .ref av, .ref aa])), (af, .inl (cI, 70, .inl (f_MO_writeState_j26 st th le lo da si fl x2 t0 y0_5 y0_6 y1).2.2))]) A) ([.ref h, .int st] : List Value).toArray s 0 0 A) (F0 m 26 ls [.int t0]) := by
    intro x2 t0 y0_5 y0_6 y1 H locs ls hl hP hD hS
    refine lv_istore_n (lv' := [(3, .int t0), (0, .ref h), (1, .int st), (2, .int x2)]) hx hb d_MO_writeState_26 rfl hl (by decide) rfl (fun ls hl => ?_)
    refine lv_iload_n hx hb d_MO_writeState_27 rfl (lv_at hl 3 rfl) ?_
    refine lv_if_ne (tgt := 36) hx hb d_MO_writeState_28 (by decide) (fun h4 => ?_) (fun h4 => ?_)
    · refine lv_bipush (v := 64) hx hb d_MO_writeState_36 (by decide) ?_
      have e0 : (f_MO_writeState_j26 st th le lo da si fl x2 t0 y0_5 y0_6 y1) = f_MO_writeState_j38 st th le lo da si fl t0 (64 : Int32) y0_5 y0_6 y1 := by rw [f_MO_writeState_j26, if_neg h4]
      rw [e0]
      exact jn_38 t0 (64 : Int32) y0_5 y0_6 y1 _ _ ls (by simp) (lv_sub hl [1, 2, 0] rfl) hP hD hS
    · refine lv_bipush (v := 67) hx hb d_MO_writeState_31 (by decide) ?_
      refine lv_goto (tgt := 38) hx hb d_MO_writeState_33 (by decide) ?_
      have e0 : (f_MO_writeState_j26 st th le lo da si fl x2 t0 y0_5 y0_6 y1) = f_MO_writeState_j38 st th le lo da si fl t0 (67 : Int32) y0_5 y0_6 y1 := by rw [f_MO_writeState_j26, if_pos h4]
      rw [e0]
      exact jn_38 t0 (67 : Int32) y0_5 y0_6 y1 _ _ ls (by simp) (lv_sub hl [1, 2, 0] rfl) hP hD hS
  have hl := lv_entry ([.ref h, .int st]) (n := 5) (Nat.le_of_ble_eq_true rfl)
  rw [lg_entry_eq]
  generalize (lg_sl ([.ref h, .int st]) ++ List.replicate (5 - (lg_sl ([.ref h, .int st])).length) Slot.unset).toArray = ls at hl ⊢
  have hl : lv_has ls 5 [(0, .ref h), (1, .int st)] := hl
  refine lv_aload_n hx hb d_MO_writeState_0 rfl (lv_at hl 0 rfl) ?_
  have hPc := hP.sub (ws' := [(h, .inr (5, [.int th, .ref af, .ref ak, .ref ar, .ref ag, .int le, .int lo, .int da, .ref ad, .ref ac, .ref ab, .int si, .ref ax, .ref aw, .ref an, .ref av, .ref aa])), (af, .inl (cI, 70, .inl fl))]) [0, 1] rfl
  have hDc := hD.sub (ws' := [(h, .inr (5, [.int th, .ref af, .ref ak, .ref ar, .ref ag, .int le, .int lo, .int da, .ref ad, .ref ac, .ref ab, .int si, .ref ax, .ref aw, .ref an, .ref av, .ref aa])), (af, .inl (cI, 70, .inl fl))]) [0, 1] (by decide) rfl
  have hFc := va_free (wc := [(h, .inr (5, [.int th, .ref af, .ref ak, .ref ar, .ref ag, .int le, .int lo, .int da, .ref ad, .ref ac, .ref ab, .int si, .ref ax, .ref aw, .ref an, .ref av, .ref aa])), (af, .inl (cI, 70, .inl fl))]) hD hS hA [0, 1] rfl
  refine va_calli (va_runV (As := []) (rest := []) ⟨hx, hb, hml, hown, hts⟩ (c_MO_holds l dC dI cI cJ h af ak ar ag ad ac ab ax aw an av aa _ th le lo da si fl) ⟨callB_of 0 hts (bc_good gw_575) rfl rfl rfl (hts _ gw_6) (hts _ gw_573) (by decide +kernel) ⟨Nat.le_of_ble_eq_true rfl, Nat.le_of_ble_eq_true rfl⟩, (hts _ gw_574), (hts _ gw_707)⟩ ⟨bc_blind, va_recv (q0 := 0) hK hP (q := (R_MO, F_MO, 17)) rfl rfl, fun U hU hW => ⟨rfl, bc_give hPc hDc hK hE hS hFc U hU hW⟩⟩ rfl rfl hl.1 rfl (lv_room (Nat.le_of_ble_eq_true rfl)) d_MO_writeState_1 ⟨Nat.le_of_ble_eq_true rfl, Nat.le_of_ble_eq_true rfl⟩) hS (fun q _ h => hFc q h) hFc (fun r u t H9 locs ht hvm hp hB hz1 hk1 hS => ?_)
  subst hp
  obtain ⟨hP, hD⟩ := va_join (wr := []) (w1 := [(h, .inr (5, [.int th, .ref af, .ref ak, .ref ar, .ref ag, .int le, .int lo, .int da, .ref ad, .ref ac, .ref ab, .int si, .ref ax, .ref aw, .ref an, .ref av, .ref aa])), (af, .inl (cI, 70, .inl fl))]) hP hD [0, 1] [] rfl rfl (by decide) (by decide) hk1 hFc (ht ▸ hB.1) hB.2.2
  have hP := hP.sub (ws' := [(h, .inr (5, [.int th, .ref af, .ref ak, .ref ar, .ref ag, .int le, .int lo, .int da, .ref ad, .ref ac, .ref ab, .int si, .ref ax, .ref aw, .ref an, .ref av, .ref aa])), (af, .inl (cI, 70, .inl fl))]) [0, 1] rfl
  have hD := hD.sub (ws' := [(h, .inr (5, [.int th, .ref af, .ref ak, .ref ar, .ref ag, .int le, .int lo, .int da, .ref ad, .ref ac, .ref ab, .int si, .ref ax, .ref aw, .ref an, .ref av, .ref aa])), (af, .inl (cI, 70, .inl fl))]) [0, 1] (by decide) rfl
  generalize H9 = H at hP hS ⊢
  refine lv_istore_n (lv' := [(2, .int (f_MO_holds th le lo da si fl)), (0, .ref h), (1, .int st)]) hx hb d_MO_writeState_4 rfl hl (by decide) rfl (fun ls hl => ?_)
  refine lv_iload_n hx hb d_MO_writeState_5 rfl (lv_at hl 0 rfl) ?_
  refine lv_if_ge (tgt := 13) hx hb d_MO_writeState_6 (by decide) (fun h3 => ?_) (fun h3 => ?_)
  · refine lv_aload_n hx hb d_MO_writeState_13 rfl (lv_at hl 1 rfl) ?_
    refine va_get (D := (dC, dI)) (ci := 5) (v := .ref af) (C := R_MO) (T := F_MO) (N := 17) hx hb hts in_MO hown hK hP 0 rfl rfl 1 (by decide) (hts _ gw_519) (fun _ h9 => h9) rfl d_MO_writeState_14 ?_
    refine lv_bipush (v := 64) hx hb d_MO_writeState_17 (by decide) ?_
    refine lv_iconst (v := 3) hx hb d_MO_writeState_19 (by decide) ?_
    refine lv_iload_n hx hb d_MO_writeState_20 rfl (lv_at hl 0 rfl) ?_
    refine lv_imul hx hb d_MO_writeState_21 ?_
    refine lv_iadd hx hb d_MO_writeState_22 ?_
    refine va_iald hx hb hK hP 1 0 rfl rfl (by exact ix_h65 64 (p_holds3 (p_holds _ _ _ _ _ _) (by assumption)) (by decide)) d_MO_writeState_23 ?_
    refine lv_iconst (v := 1) hx hb d_MO_writeState_24 (by decide) ?_
    refine lv_iadd hx hb d_MO_writeState_25 ?_
    have e0 : (f_MO_writeState st th le lo da si fl) = f_MO_writeState_j26 st th le lo da si fl (f_MO_holds th le lo da si fl) ((fl (((64 : Int32) + ((3 : Int32) * (f_MO_holds th le lo da si fl)))).toNatClampNeg) + (1 : Int32)) le lo fl := by rw [f_MO_writeState, if_pos h3]
    rw [e0]
    exact jn_26 (f_MO_holds th le lo da si fl) ((fl (((64 : Int32) + ((3 : Int32) * (f_MO_holds th le lo da si fl)))).toNatClampNeg) + (1 : Int32)) le lo fl _ _ ls (lv_sub hl [1, 2, 0] rfl) hP hD hS
  · refine lv_iconst (v := 1) hx hb d_MO_writeState_9 (by decide) ?_
    refine lv_goto (tgt := 26) hx hb d_MO_writeState_10 (by decide) ?_
    have e0 : (f_MO_writeState st th le lo da si fl) = f_MO_writeState_j26 st th le lo da si fl (f_MO_holds th le lo da si fl) (1 : Int32) le lo fl := by rw [f_MO_writeState, if_neg h3]
    rw [e0]
    exact jn_26 (f_MO_holds th le lo da si fl) (1 : Int32) le lo fl _ _ ls (lv_sub hl [1, 2, 0] rfl) hP hD hS
-- MO_part
theorem d_MO_part_0 : decode prog_8_method_16_code 0 = .ok (.iload_n 1, 1) := by decide +kernel
theorem d_MO_part_1 : decode prog_8_method_16_code 1 = .ok (.ifCond .ne 10, 3) := by decide +kernel
theorem d_MO_part_4 : decode prog_8_method_16_code 4 = .ok (.iload_n 0, 1) := by decide +kernel
theorem d_MO_part_5 : decode prog_8_method_16_code 5 = .ok (.bipush 15, 2) := by decide +kernel
theorem d_MO_part_7 : decode prog_8_method_16_code 7 = .ok (.iand, 1) := by decide +kernel
theorem d_MO_part_8 : decode prog_8_method_16_code 8 = .ok (.goto 9, 3) := by decide +kernel
theorem d_MO_part_11 : decode prog_8_method_16_code 11 = .ok (.iload_n 0, 1) := by decide +kernel
theorem d_MO_part_12 : decode prog_8_method_16_code 12 = .ok (.iconst 4, 1) := by decide +kernel
theorem d_MO_part_13 : decode prog_8_method_16_code 13 = .ok (.ishr, 1) := by decide +kernel
theorem d_MO_part_14 : decode prog_8_method_16_code 14 = .ok (.bipush 15, 2) := by decide +kernel
theorem d_MO_part_16 : decode prog_8_method_16_code 16 = .ok (.iand, 1) := by decide +kernel
theorem d_MO_part_17 : decode prog_8_method_16_code 17 = .ok (.ireturn, 1) := by decide +kernel
def y_MO_part : MethodName := ⟨"BootChainModel", "part", "(II)I"⟩
def ws_MO_part : List Cond := .code y_MO_part prog_8_method_16_code 2 (some .int) :: bc_G
def f_MO_part (st : Int32) (sg : Int32) : Int32 := if sg = 0 then (st &&& (15 : Int32)) else ((st >>> ((4 : Int32) &&& 31)) &&& (15 : Int32))
set_option maxHeartbeats 4000000 in
set_option maxRecDepth 100000 in
theorem c_MO_part (l : Launch) (dC : Nat → ClassId) (dI : Nat → Nat → Nat) (cI cJ : ClassId) (sz : Nat) (st : Int32) (sg : Int32) : Met l y_MO_part ws_MO_part ({ frames := 0, cells := 0, slots := 0, locals := 0 } : Room) (va_Pc [.int st, .int sg] (bc_pre (dC, dI) cI cJ [] sz)) (va_Qi (fun (r : Int32) (_ : Unit) => r = (f_MO_part st sg)) (fun _ => bc_post (dC, dI) cI cJ (va_A [] sz) []) (va_A [] sz)) 0 0 (va_A [] sz) := by
  refine Met.ofW (cc := prog_8_method_16_code) (maxL := 2) (ret := (some .int)) (by decide) rfl ?_
  intro p e s m args below meth c s₁ B hml hv
  obtain ⟨rfl, hsz, hP, hK, hD0, hE⟩ := hv
  have hx := B.exec
  have hb := B.bytes
  have hr := B.returns
  have hts : ∀ w ∈ bc_G, w.before ([.int st, .int sg] : List Value).toArray s = true := fun w h => atoms_spec (ws := ws_MO_part) B.pre w (List.mem_cons_of_mem _ h)
  have hown : s.vm.findClass "BootChainModel" = some m.cls := findClass_of_methodNamed B.named
  have hlocks := B.notSynchronized
  subst hsz
  have hD := hD0.self (sz := s.heap.size)
  generalize hAe : va_A [] s.heap.size = A at hD hE ⊢
  have hA : ∀ q : Nat, s.heap.size ≤ q → A q := fun q h => by rw [← hAe]; exact Or.inr h
  have hS : va_S A s.heap s.heap [] := va_S.rf
  have hl := lv_entry ([.int st, .int sg]) (n := 2) (Nat.le_of_ble_eq_true rfl)
  rw [lg_entry_eq]
  generalize (lg_sl ([.int st, .int sg]) ++ List.replicate (2 - (lg_sl ([.int st, .int sg])).length) Slot.unset).toArray = ls at hl ⊢
  have hl : lv_has ls 2 [(0, .int st), (1, .int sg)] := hl
  refine lv_iload_n hx hb d_MO_part_0 rfl (lv_at hl 1 rfl) ?_
  refine lv_if_ne (tgt := 11) hx hb d_MO_part_1 (by decide) (fun h2 => ?_) (fun h2 => ?_)
  · refine lv_iload_n hx hb d_MO_part_11 rfl (lv_at hl 0 rfl) ?_
    refine lv_iconst (v := 4) hx hb d_MO_part_12 (by decide) ?_
    refine lv_ishr hx hb d_MO_part_13 ?_
    refine lv_bipush (v := 15) hx hb d_MO_part_14 (by decide) ?_
    refine lv_iand hx hb d_MO_part_16 ?_
    have e0 : (f_MO_part st sg) = ((st >>> ((4 : Int32) &&& 31)) &&& (15 : Int32)) := by rw [f_MO_part, if_neg h2]
    rw [e0]
    exact W.iret (v := ((st >>> ((4 : Int32) &&& 31)) &&& (15 : Int32))) hx hb hr (fun t ht hW => ⟨⟨((st >>> ((4 : Int32) &&& 31)) &&& (15 : Int32)), (), rfl, rfl, by rw [ht]; exact hP, va_K.moved hW.alike hK, hD⟩, hS.F ht⟩) hS.2.2 d_MO_part_17
  · refine lv_iload_n hx hb d_MO_part_4 rfl (lv_at hl 0 rfl) ?_
    refine lv_bipush (v := 15) hx hb d_MO_part_5 (by decide) ?_
    refine lv_iand hx hb d_MO_part_7 ?_
    refine lv_goto (tgt := 17) hx hb d_MO_part_8 (by decide) ?_
    have e0 : (f_MO_part st sg) = (st &&& (15 : Int32)) := by rw [f_MO_part, if_pos h2]
    rw [e0]
    exact W.iret (v := (st &&& (15 : Int32))) hx hb hr (fun t ht hW => ⟨⟨(st &&& (15 : Int32)), (), rfl, rfl, by rw [ht]; exact hP, va_K.moved hW.alike hK, hD⟩, hS.F ht⟩) hS.2.2 d_MO_part_17
-- MO_with
theorem d_MO_with_0 : decode prog_8_method_17_code 0 = .ok (.iload_n 1, 1) := by decide +kernel
theorem d_MO_with_1 : decode prog_8_method_17_code 1 = .ok (.ifCond .ne 12, 3) := by decide +kernel
theorem d_MO_with_4 : decode prog_8_method_17_code 4 = .ok (.iload_n 0, 1) := by decide +kernel
theorem d_MO_with_5 : decode prog_8_method_17_code 5 = .ok (.bipush (-16), 2) := by decide +kernel
theorem d_MO_with_7 : decode prog_8_method_17_code 7 = .ok (.iand, 1) := by decide +kernel
theorem d_MO_with_8 : decode prog_8_method_17_code 8 = .ok (.iload_n 2, 1) := by decide +kernel
theorem d_MO_with_9 : decode prog_8_method_17_code 9 = .ok (.ior, 1) := by decide +kernel
theorem d_MO_with_10 : decode prog_8_method_17_code 10 = .ok (.goto 12, 3) := by decide +kernel
theorem d_MO_with_13 : decode prog_8_method_17_code 13 = .ok (.iload_n 0, 1) := by decide +kernel
theorem d_MO_with_14 : decode prog_8_method_17_code 14 = .ok (.sipush (-241), 3) := by decide +kernel
theorem d_MO_with_17 : decode prog_8_method_17_code 17 = .ok (.iand, 1) := by decide +kernel
theorem d_MO_with_18 : decode prog_8_method_17_code 18 = .ok (.iload_n 2, 1) := by decide +kernel
theorem d_MO_with_19 : decode prog_8_method_17_code 19 = .ok (.iconst 4, 1) := by decide +kernel
theorem d_MO_with_20 : decode prog_8_method_17_code 20 = .ok (.ishl, 1) := by decide +kernel
theorem d_MO_with_21 : decode prog_8_method_17_code 21 = .ok (.ior, 1) := by decide +kernel
theorem d_MO_with_22 : decode prog_8_method_17_code 22 = .ok (.ireturn, 1) := by decide +kernel
def y_MO_with : MethodName := ⟨"BootChainModel", "with", "(III)I"⟩
def ws_MO_with : List Cond := .code y_MO_with prog_8_method_17_code 3 (some .int) :: bc_G
def f_MO_with (st : Int32) (sg : Int32) (pa : Int32) : Int32 := if sg = 0 then ((st &&& (-16 : Int32)) ||| pa) else ((st &&& (-241 : Int32)) ||| (pa <<< ((4 : Int32) &&& 31)))
set_option maxHeartbeats 4000000 in
set_option maxRecDepth 100000 in
theorem c_MO_with (l : Launch) (dC : Nat → ClassId) (dI : Nat → Nat → Nat) (cI cJ : ClassId) (sz : Nat) (st : Int32) (sg : Int32) (pa : Int32) : Met l y_MO_with ws_MO_with ({ frames := 0, cells := 0, slots := 0, locals := 0 } : Room) (va_Pc [.int st, .int sg, .int pa] (bc_pre (dC, dI) cI cJ [] sz)) (va_Qi (fun (r : Int32) (_ : Unit) => r = (f_MO_with st sg pa)) (fun _ => bc_post (dC, dI) cI cJ (va_A [] sz) []) (va_A [] sz)) 0 0 (va_A [] sz) := by
  refine Met.ofW (cc := prog_8_method_17_code) (maxL := 3) (ret := (some .int)) (by decide) rfl ?_
  intro p e s m args below meth c s₁ B hml hv
  obtain ⟨rfl, hsz, hP, hK, hD0, hE⟩ := hv
  have hx := B.exec
  have hb := B.bytes
  have hr := B.returns
  have hts : ∀ w ∈ bc_G, w.before ([.int st, .int sg, .int pa] : List Value).toArray s = true := fun w h => atoms_spec (ws := ws_MO_with) B.pre w (List.mem_cons_of_mem _ h)
  have hown : s.vm.findClass "BootChainModel" = some m.cls := findClass_of_methodNamed B.named
  have hlocks := B.notSynchronized
  subst hsz
  have hD := hD0.self (sz := s.heap.size)
  generalize hAe : va_A [] s.heap.size = A at hD hE ⊢
  have hA : ∀ q : Nat, s.heap.size ≤ q → A q := fun q h => by rw [← hAe]; exact Or.inr h
  have hS : va_S A s.heap s.heap [] := va_S.rf
  have hl := lv_entry ([.int st, .int sg, .int pa]) (n := 3) (Nat.le_of_ble_eq_true rfl)
  rw [lg_entry_eq]
  generalize (lg_sl ([.int st, .int sg, .int pa]) ++ List.replicate (3 - (lg_sl ([.int st, .int sg, .int pa])).length) Slot.unset).toArray = ls at hl ⊢
  have hl : lv_has ls 3 [(0, .int st), (1, .int sg), (2, .int pa)] := hl
  refine lv_iload_n hx hb d_MO_with_0 rfl (lv_at hl 1 rfl) ?_
  refine lv_if_ne (tgt := 13) hx hb d_MO_with_1 (by decide) (fun h2 => ?_) (fun h2 => ?_)
  · refine lv_iload_n hx hb d_MO_with_13 rfl (lv_at hl 0 rfl) ?_
    refine lv_sipush (v := (-241)) hx hb d_MO_with_14 (by decide) ?_
    refine lv_iand hx hb d_MO_with_17 ?_
    refine lv_iload_n hx hb d_MO_with_18 rfl (lv_at hl 2 rfl) ?_
    refine lv_iconst (v := 4) hx hb d_MO_with_19 (by decide) ?_
    refine lv_ishl hx hb d_MO_with_20 ?_
    refine lv_ior hx hb d_MO_with_21 ?_
    have e0 : (f_MO_with st sg pa) = ((st &&& (-241 : Int32)) ||| (pa <<< ((4 : Int32) &&& 31))) := by rw [f_MO_with, if_neg h2]
    rw [e0]
    exact W.iret (v := ((st &&& (-241 : Int32)) ||| (pa <<< ((4 : Int32) &&& 31)))) hx hb hr (fun t ht hW => ⟨⟨((st &&& (-241 : Int32)) ||| (pa <<< ((4 : Int32) &&& 31))), (), rfl, rfl, by rw [ht]; exact hP, va_K.moved hW.alike hK, hD⟩, hS.F ht⟩) hS.2.2 d_MO_with_22
  · refine lv_iload_n hx hb d_MO_with_4 rfl (lv_at hl 0 rfl) ?_
    refine lv_bipush (v := (-16)) hx hb d_MO_with_5 (by decide) ?_
    refine lv_iand hx hb d_MO_with_7 ?_
    refine lv_iload_n hx hb d_MO_with_8 rfl (lv_at hl 2 rfl) ?_
    refine lv_ior hx hb d_MO_with_9 ?_
    refine lv_goto (tgt := 22) hx hb d_MO_with_10 (by decide) ?_
    have e0 : (f_MO_with st sg pa) = ((st &&& (-16 : Int32)) ||| pa) := by rw [f_MO_with, if_pos h2]
    rw [e0]
    exact W.iret (v := ((st &&& (-16 : Int32)) ||| pa)) hx hb hr (fun t ht hW => ⟨⟨((st &&& (-16 : Int32)) ||| pa), (), rfl, rfl, by rw [ht]; exact hP, va_K.moved hW.alike hK, hD⟩, hS.F ht⟩) hS.2.2 d_MO_with_22
-- MO_off
theorem d_MO_off_0 : decode prog_8_method_21_code 0 = .ok (.iconst 0, 1) := by decide +kernel
theorem d_MO_off_1 : decode prog_8_method_21_code 1 = .ok (.istore_n 1, 1) := by decide +kernel
theorem d_MO_off_2 : decode prog_8_method_21_code 2 = .ok (.iload_n 1, 1) := by decide +kernel
theorem d_MO_off_3 : decode prog_8_method_21_code 3 = .ok (.bipush 16, 2) := by decide +kernel
theorem d_MO_off_5 : decode prog_8_method_21_code 5 = .ok (.if_icmp .ge 16, 3) := by decide +kernel
theorem d_MO_off_8 : decode prog_8_method_21_code 8 = .ok (.aload_n 0, 1) := by decide +kernel
theorem d_MO_off_9 : decode prog_8_method_21_code 9 = .ok (.getfield 19, 3) := by decide +kernel
theorem d_MO_off_12 : decode prog_8_method_21_code 12 = .ok (.iload_n 1, 1) := by decide +kernel
theorem d_MO_off_13 : decode prog_8_method_21_code 13 = .ok (.iconst 0, 1) := by decide +kernel
theorem d_MO_off_14 : decode prog_8_method_21_code 14 = .ok (.iastore, 1) := by decide +kernel
theorem d_MO_off_15 : decode prog_8_method_21_code 15 = .ok (.iinc 1 1, 3) := by decide +kernel
theorem d_MO_off_18 : decode prog_8_method_21_code 18 = .ok (.goto (-16), 3) := by decide +kernel
theorem d_MO_off_21 : decode prog_8_method_21_code 21 = .ok (.aload_n 0, 1) := by decide +kernel
theorem d_MO_off_22 : decode prog_8_method_21_code 22 = .ok (.getfield 16, 3) := by decide +kernel
theorem d_MO_off_25 : decode prog_8_method_21_code 25 = .ok (.iconst 0, 1) := by decide +kernel
theorem d_MO_off_26 : decode prog_8_method_21_code 26 = .ok (.iconst (-1), 1) := by decide +kernel
theorem d_MO_off_27 : decode prog_8_method_21_code 27 = .ok (.iastore, 1) := by decide +kernel
theorem d_MO_off_28 : decode prog_8_method_21_code 28 = .ok (.aload_n 0, 1) := by decide +kernel
theorem d_MO_off_29 : decode prog_8_method_21_code 29 = .ok (.getfield 16, 3) := by decide +kernel
theorem d_MO_off_32 : decode prog_8_method_21_code 32 = .ok (.iconst 1, 1) := by decide +kernel
theorem d_MO_off_33 : decode prog_8_method_21_code 33 = .ok (.iconst (-1), 1) := by decide +kernel
theorem d_MO_off_34 : decode prog_8_method_21_code 34 = .ok (.iastore, 1) := by decide +kernel
theorem d_MO_off_35 : decode prog_8_method_21_code 35 = .ok (.return_, 1) := by decide +kernel
def y_MO_off : MethodName := ⟨"BootChainModel", "off", "()V"⟩
def ws_MO_off : List Cond := .code y_MO_off prog_8_method_21_code 2 none :: bc_G
def f_MO_off_2 (th : Int32) (le : Int32) (lo : Int32) (da : Int32) (si : Int32) (rn : Nat → Int32) (rg : Nat → Int32) : Nat → Int32 → (Nat → Int32) → (Nat → Int32) → (Nat → Int32) × (Nat → Int32)
  | 0, x1, y1, y2 => (y1, y2)
  | n + 1, x1, y1, y2 => if (16 : Int32) ≤ x1 then ((upd (upd y1 ((0 : Int32)).toNatClampNeg (-1 : Int32)) ((1 : Int32)).toNatClampNeg (-1 : Int32)), y2) else f_MO_off_2 th le lo da si rn rg n (x1 + (1 : Int32)) y1 (upd y2 (x1).toNatClampNeg (0 : Int32))
def f_MO_off (th : Int32) (le : Int32) (lo : Int32) (da : Int32) (si : Int32) (rn : Nat → Int32) (rg : Nat → Int32) : (Nat → Int32) × (Nat → Int32) := f_MO_off_2 th le lo da si rn rg 17 (0 : Int32) rn rg
set_option maxHeartbeats 4000000 in
set_option maxRecDepth 100000 in
theorem c_MO_off (l : Launch) (dC : Nat → ClassId) (dI : Nat → Nat → Nat) (cI cJ : ClassId) (h af ak ar ag ad ac ab ax aw an av aa : Nat) (sz : Nat) (th : Int32) (le : Int32) (lo : Int32) (da : Int32) (si : Int32) (rn : Nat → Int32) (rg : Nat → Int32) : Met l y_MO_off ws_MO_off ({ frames := 0, cells := 0, slots := 0, locals := 0 } : Room) (va_Pc [.ref h] (bc_pre (dC, dI) cI cJ [(h, .inr (5, [.int th, .ref af, .ref ak, .ref ar, .ref ag, .int le, .int lo, .int da, .ref ad, .ref ac, .ref ab, .int si, .ref ax, .ref aw, .ref an, .ref av, .ref aa])), (ar, .inl (cI, 2, .inl rn)), (ag, .inl (cI, 16, .inl rg))] sz)) (va_Qv (fun (_ : Unit) => True) (fun _ => bc_post (dC, dI) cI cJ (va_A [(h, .inr (5, [.int th, .ref af, .ref ak, .ref ar, .ref ag, .int le, .int lo, .int da, .ref ad, .ref ac, .ref ab, .int si, .ref ax, .ref aw, .ref an, .ref av, .ref aa])), (ar, .inl (cI, 2, .inl rn)), (ag, .inl (cI, 16, .inl rg))] sz) [(h, .inr (5, [.int th, .ref af, .ref ak, .ref ar, .ref ag, .int le, .int lo, .int da, .ref ad, .ref ac, .ref ab, .int si, .ref ax, .ref aw, .ref an, .ref av, .ref aa])), (ar, .inl (cI, 2, .inl (f_MO_off th le lo da si rn rg).1)), (ag, .inl (cI, 16, .inl (f_MO_off th le lo da si rn rg).2))]) (va_A [(h, .inr (5, [.int th, .ref af, .ref ak, .ref ar, .ref ag, .int le, .int lo, .int da, .ref ad, .ref ac, .ref ab, .int si, .ref ax, .ref aw, .ref an, .ref av, .ref aa])), (ar, .inl (cI, 2, .inl rn)), (ag, .inl (cI, 16, .inl rg))] sz)) 0 0 (va_A [(h, .inr (5, [.int th, .ref af, .ref ak, .ref ar, .ref ag, .int le, .int lo, .int da, .ref ad, .ref ac, .ref ab, .int si, .ref ax, .ref aw, .ref an, .ref av, .ref aa])), (ar, .inl (cI, 2, .inl rn)), (ag, .inl (cI, 16, .inl rg))] sz) := by
  refine Met.ofW (cc := prog_8_method_21_code) (maxL := 2) (ret := none) (by decide) rfl ?_
  intro p e s m args below meth c s₁ B hml hv
  obtain ⟨rfl, hsz, hP, hK, hD0, hE⟩ := hv
  have hx := B.exec
  have hb := B.bytes
  have hr := B.returns
  have hts : ∀ w ∈ bc_G, w.before ([.ref h] : List Value).toArray s = true := fun w h => atoms_spec (ws := ws_MO_off) B.pre w (List.mem_cons_of_mem _ h)
  have hown : s.vm.findClass "BootChainModel" = some m.cls := findClass_of_methodNamed B.named
  have hlocks := B.notSynchronized
  subst hsz
  have hD := hD0.self (sz := s.heap.size)
  generalize hAe : va_A [(h, .inr (5, [.int th, .ref af, .ref ak, .ref ar, .ref ag, .int le, .int lo, .int da, .ref ad, .ref ac, .ref ab, .int si, .ref ax, .ref aw, .ref an, .ref av, .ref aa])), (ar, .inl (cI, 2, .inl rn)), (ag, .inl (cI, 16, .inl rg))] s.heap.size = A at hD hE ⊢
  have hA : ∀ q : Nat, s.heap.size ≤ q → A q := fun q h => by rw [← hAe]; exact Or.inr h
  have hS : va_S A s.heap s.heap [] := va_S.rf
  have lp_2 : ∀ (n : Nat) (x1 : Int32) (y1 : Nat → Int32) (y2 : Nat → Int32) (H : Heap) (locs : List Loc) (ls : Array Slot), 0 ≤ x1 ∧ x1 ≤ 16 → ((16 : Int32).toInt - x1.toInt).toNat < n → lv_has ls 2 [(0, .ref h), (1, .int x1)] → va_P (dC, dI) classes [(h, .inr (5, [.int th, .ref af, .ref ak, .ref ar, .ref ag, .int le, .int lo, .int da, .ref ad, .ref ac, .ref ab, .int si, .ref ax, .ref aw, .ref an, .ref av, .ref aa])), (ar, .inl (cI, 2, .inl y1)), (ag, .inl (cI, 16, .inl y2))] H → va_D A [(h, .inr (5, [.int th, .ref af, .ref ak, .ref ar, .ref ag, .int le, .int lo, .int da, .ref ad, .ref ac, .ref ab, .int si, .ref ax, .ref aw, .ref an, .ref av, .ref aa])), (ar, .inl (cI, 2, .inl y1)), (ag, .inl (cI, 16, .inl y2))] → va_S A s.heap H locs → W p l e (headSpec ws_MO_off ({ frames := 0, cells := 0, slots := 0, locals := 0 } : Room)).room s m ([.ref h] : List Value).toArray below meth c H locs 0 0 (MQ below (va_Qv (fun (_ : Unit) => True) (fun _ => bc_post (dC, dI) cI cJ A [(h, .inr (5, [.int th, .ref af, .ref ak, .ref ar, .ref ag, .int le, .int lo, .int da, .ref ad, .ref ac, .ref ab, .int si, .ref ax, .ref aw, .ref an, .ref av, .ref aa])), (ar, .inl (cI, 2, .inl (f_MO_off_2 th le lo da si rn rg n x1 y1 y2).1)), (ag, .inl (cI, 16, .inl (f_MO_off_2 th le lo da si rn rg n x1 y1 y2).2))]) A) ([.ref h] : List Value).toArray s 0 0 A) (F0 m 2 ls []) := by
    intro n
    induction n with
    | zero => intro x1 y1 y2 H locs ls hI hm; exact absurd hm (Nat.not_lt_zero _)
    | succ n ih =>
      intro x1 y1 y2 H locs ls hI hm hl hP hD hS
      refine lv_iload_n hx hb d_MO_off_2 rfl (lv_at hl 1 rfl) ?_
      refine lv_bipush (v := 16) hx hb d_MO_off_3 (by decide) ?_
      refine lv_icmp_ge (tgt := 21) hx hb d_MO_off_5 (by decide) (fun h2 => ?_) (fun h2 => ?_)
      · refine lv_aload_n hx hb d_MO_off_21 rfl (lv_at hl 0 rfl) ?_
        refine va_get (D := (dC, dI)) (ci := 5) (v := .ref ar) (C := R_MO) (T := F_MO) (N := 17) hx hb hts in_MO hown hK hP 0 rfl rfl 3 (by decide) (hts _ gw_521) (fun _ h9 => h9) rfl d_MO_off_22 ?_
        refine lv_iconst (v := 0) hx hb d_MO_off_25 (by decide) ?_
        refine lv_iconst (v := (-1)) hx hb d_MO_off_26 (by decide) ?_
        refine va_iast hx hb hK hP hD hS 1 0 rfl rfl (by first | (unfold vp_in; decide +kernel) | exact ix_sub 16 16 hI.1 (by assumption) rfl (by decide) (by decide)) d_MO_off_27 (fun H locs hP hD hS => ?_)
        have hP : va_P (dC, dI) classes [(h, .inr (5, [.int th, .ref af, .ref ak, .ref ar, .ref ag, .int le, .int lo, .int da, .ref ad, .ref ac, .ref ab, .int si, .ref ax, .ref aw, .ref an, .ref av, .ref aa])), (ar, .inl (cI, 2, .inl (upd y1 ((0 : Int32)).toNatClampNeg (-1 : Int32)))), (ag, .inl (cI, 16, .inl y2))] H := hP
        have hD : va_D A [(h, .inr (5, [.int th, .ref af, .ref ak, .ref ar, .ref ag, .int le, .int lo, .int da, .ref ad, .ref ac, .ref ab, .int si, .ref ax, .ref aw, .ref an, .ref av, .ref aa])), (ar, .inl (cI, 2, .inl (upd y1 ((0 : Int32)).toNatClampNeg (-1 : Int32)))), (ag, .inl (cI, 16, .inl y2))] := hD
        refine lv_aload_n hx hb d_MO_off_28 rfl (lv_at hl 0 rfl) ?_
        refine va_get (D := (dC, dI)) (ci := 5) (v := .ref ar) (C := R_MO) (T := F_MO) (N := 17) hx hb hts in_MO hown hK hP 0 rfl rfl 3 (by decide) (hts _ gw_521) (fun _ h9 => h9) rfl d_MO_off_29 ?_
        refine lv_iconst (v := 1) hx hb d_MO_off_32 (by decide) ?_
        refine lv_iconst (v := (-1)) hx hb d_MO_off_33 (by decide) ?_
        refine va_iast hx hb hK hP hD hS 1 0 rfl rfl (by first | (unfold vp_in; decide +kernel) | exact ix_sub 16 16 hI.1 (by assumption) rfl (by decide) (by decide)) d_MO_off_34 (fun H locs hP hD hS => ?_)
        have hP : va_P (dC, dI) classes [(h, .inr (5, [.int th, .ref af, .ref ak, .ref ar, .ref ag, .int le, .int lo, .int da, .ref ad, .ref ac, .ref ab, .int si, .ref ax, .ref aw, .ref an, .ref av, .ref aa])), (ar, .inl (cI, 2, .inl (upd (upd y1 ((0 : Int32)).toNatClampNeg (-1 : Int32)) ((1 : Int32)).toNatClampNeg (-1 : Int32)))), (ag, .inl (cI, 16, .inl y2))] H := hP
        have hD : va_D A [(h, .inr (5, [.int th, .ref af, .ref ak, .ref ar, .ref ag, .int le, .int lo, .int da, .ref ad, .ref ac, .ref ab, .int si, .ref ax, .ref aw, .ref an, .ref av, .ref aa])), (ar, .inl (cI, 2, .inl (upd (upd y1 ((0 : Int32)).toNatClampNeg (-1 : Int32)) ((1 : Int32)).toNatClampNeg (-1 : Int32)))), (ag, .inl (cI, 16, .inl y2))] := hD
        have e0 : (f_MO_off_2 th le lo da si rn rg (n + 1) x1 y1 y2) = ((upd (upd y1 ((0 : Int32)).toNatClampNeg (-1 : Int32)) ((1 : Int32)).toNatClampNeg (-1 : Int32)), y2) := by rw [f_MO_off_2, if_pos h2]
        rw [e0]
        exact W.vret hx hb hr (fun t ht hW => ⟨⟨(), rfl, trivial, by rw [ht]; exact hP, va_K.moved hW.alike hK, hD⟩, hS.F ht⟩) hS.2.2 d_MO_off_35
      · refine lv_aload_n hx hb d_MO_off_8 rfl (lv_at hl 0 rfl) ?_
        refine va_get (D := (dC, dI)) (ci := 5) (v := .ref ag) (C := R_MO) (T := F_MO) (N := 17) hx hb hts in_MO hown hK hP 0 rfl rfl 4 (by decide) (hts _ gw_522) (fun _ h9 => h9) rfl d_MO_off_9 ?_
        refine lv_iload_n hx hb d_MO_off_12 rfl (lv_at hl 1 rfl) ?_
        refine lv_iconst (v := 0) hx hb d_MO_off_13 (by decide) ?_
        refine va_iast hx hb hK hP hD hS 2 0 rfl rfl (by first | (unfold vp_in; decide +kernel) | exact ix_sub 16 16 hI.1 (by assumption) rfl (by decide) (by decide)) d_MO_off_14 (fun H locs hP hD hS => ?_)
        have hP : va_P (dC, dI) classes [(h, .inr (5, [.int th, .ref af, .ref ak, .ref ar, .ref ag, .int le, .int lo, .int da, .ref ad, .ref ac, .ref ab, .int si, .ref ax, .ref aw, .ref an, .ref av, .ref aa])), (ar, .inl (cI, 2, .inl y1)), (ag, .inl (cI, 16, .inl (upd y2 (x1).toNatClampNeg (0 : Int32))))] H := hP
        have hD : va_D A [(h, .inr (5, [.int th, .ref af, .ref ak, .ref ar, .ref ag, .int le, .int lo, .int da, .ref ad, .ref ac, .ref ab, .int si, .ref ax, .ref aw, .ref an, .ref av, .ref aa])), (ar, .inl (cI, 2, .inl y1)), (ag, .inl (cI, 16, .inl (upd y2 (x1).toNatClampNeg (0 : Int32))))] := hD
        refine lv_iinc (k := 1) (v := (x1 + (1 : Int32))) (lv' := [(1, .int (x1 + (1 : Int32))), (0, .ref h)]) hx hb d_MO_off_15 hl rfl rfl (by decide) rfl (fun ls hl => ?_)
        refine lv_goto (tgt := 2) hx hb d_MO_off_18 (by decide) ?_
        have e0 : (f_MO_off_2 th le lo da si rn rg (n + 1) x1 y1 y2) = f_MO_off_2 th le lo da si rn rg n (x1 + (1 : Int32)) y1 (upd y2 (x1).toNatClampNeg (0 : Int32)) := by rw [f_MO_off_2, if_neg h2]
        rw [e0]
        exact ih (x1 + (1 : Int32)) y1 (upd y2 (x1).toNatClampNeg (0 : Int32)) _ _ ls (lp_up hI.1 (by assumption)).1 (lp_ms hI.1 (by assumption) hm) (lv_sub hl [1, 0] rfl) hP hD hS
  have hl := lv_entry ([.ref h]) (n := 2) (Nat.le_of_ble_eq_true rfl)
  rw [lg_entry_eq]
  generalize (lg_sl ([.ref h]) ++ List.replicate (2 - (lg_sl ([.ref h])).length) Slot.unset).toArray = ls at hl ⊢
  have hl : lv_has ls 2 [(0, .ref h)] := hl
  refine lv_iconst (v := 0) hx hb d_MO_off_0 (by decide) ?_
  refine lv_istore_n (lv' := [(1, .int (0 : Int32)), (0, .ref h)]) hx hb d_MO_off_1 rfl hl (by decide) rfl (fun ls hl => ?_)
  have e0 : (f_MO_off th le lo da si rn rg) = f_MO_off_2 th le lo da si rn rg 17 (0 : Int32) rn rg := by rw [f_MO_off]
  rw [e0]
  exact lp_2 17 (0 : Int32) rn rg _ _ ls ⟨by decide, by decide⟩ (by decide) (lv_sub hl [1, 0] rfl) hP hD hS
-- MO_both
theorem d_MO_both_0 : decode prog_8_method_29_code 0 = .ok (.aload_n 0, 1) := by decide +kernel
theorem d_MO_both_1 : decode prog_8_method_29_code 1 = .ok (.getfield 16, 3) := by decide +kernel
theorem d_MO_both_4 : decode prog_8_method_29_code 4 = .ok (.iconst 0, 1) := by decide +kernel
theorem d_MO_both_5 : decode prog_8_method_29_code 5 = .ok (.iaload, 1) := by decide +kernel
theorem d_MO_both_6 : decode prog_8_method_29_code 6 = .ok (.ifCond .lt 16, 3) := by decide +kernel
theorem d_MO_both_9 : decode prog_8_method_29_code 9 = .ok (.aload_n 0, 1) := by decide +kernel
theorem d_MO_both_10 : decode prog_8_method_29_code 10 = .ok (.getfield 16, 3) := by decide +kernel
theorem d_MO_both_13 : decode prog_8_method_29_code 13 = .ok (.iconst 1, 1) := by decide +kernel
theorem d_MO_both_14 : decode prog_8_method_29_code 14 = .ok (.iaload, 1) := by decide +kernel
theorem d_MO_both_15 : decode prog_8_method_29_code 15 = .ok (.ifCond .lt 7, 3) := by decide +kernel
theorem d_MO_both_18 : decode prog_8_method_29_code 18 = .ok (.iconst 1, 1) := by decide +kernel
theorem d_MO_both_19 : decode prog_8_method_29_code 19 = .ok (.goto 4, 3) := by decide +kernel
theorem d_MO_both_22 : decode prog_8_method_29_code 22 = .ok (.iconst 0, 1) := by decide +kernel
theorem d_MO_both_23 : decode prog_8_method_29_code 23 = .ok (.ireturn, 1) := by decide +kernel
def y_MO_both : MethodName := ⟨"BootChainModel", "both", "()Z"⟩
def ws_MO_both : List Cond := .code y_MO_both prog_8_method_29_code 1 (some .boolean) :: bc_G
def f_MO_both (th : Int32) (le : Int32) (lo : Int32) (da : Int32) (si : Int32) (rn : Nat → Int32) : Int32 := if (rn ((0 : Int32)).toNatClampNeg) < 0 then (0 : Int32) else if (rn ((1 : Int32)).toNatClampNeg) < 0 then (0 : Int32) else (1 : Int32)
set_option maxHeartbeats 4000000 in
set_option maxRecDepth 100000 in
theorem c_MO_both (l : Launch) (dC : Nat → ClassId) (dI : Nat → Nat → Nat) (cI cJ : ClassId) (h af ak ar ag ad ac ab ax aw an av aa : Nat) (sz : Nat) (th : Int32) (le : Int32) (lo : Int32) (da : Int32) (si : Int32) (rn : Nat → Int32) : Met l y_MO_both ws_MO_both ({ frames := 0, cells := 0, slots := 0, locals := 0 } : Room) (va_Pc [.ref h] (bc_pre (dC, dI) cI cJ [(h, .inr (5, [.int th, .ref af, .ref ak, .ref ar, .ref ag, .int le, .int lo, .int da, .ref ad, .ref ac, .ref ab, .int si, .ref ax, .ref aw, .ref an, .ref av, .ref aa])), (ar, .inl (cI, 2, .inl rn))] sz)) (va_Qi (fun (r : Int32) (_ : Unit) => r = (f_MO_both th le lo da si rn)) (fun _ => bc_post (dC, dI) cI cJ (va_A [(h, .inr (5, [.int th, .ref af, .ref ak, .ref ar, .ref ag, .int le, .int lo, .int da, .ref ad, .ref ac, .ref ab, .int si, .ref ax, .ref aw, .ref an, .ref av, .ref aa])), (ar, .inl (cI, 2, .inl rn))] sz) [(h, .inr (5, [.int th, .ref af, .ref ak, .ref ar, .ref ag, .int le, .int lo, .int da, .ref ad, .ref ac, .ref ab, .int si, .ref ax, .ref aw, .ref an, .ref av, .ref aa])), (ar, .inl (cI, 2, .inl rn))]) (va_A [(h, .inr (5, [.int th, .ref af, .ref ak, .ref ar, .ref ag, .int le, .int lo, .int da, .ref ad, .ref ac, .ref ab, .int si, .ref ax, .ref aw, .ref an, .ref av, .ref aa])), (ar, .inl (cI, 2, .inl rn))] sz)) 0 0 (va_A [(h, .inr (5, [.int th, .ref af, .ref ak, .ref ar, .ref ag, .int le, .int lo, .int da, .ref ad, .ref ac, .ref ab, .int si, .ref ax, .ref aw, .ref an, .ref av, .ref aa])), (ar, .inl (cI, 2, .inl rn))] sz) := by
  refine Met.ofW (cc := prog_8_method_29_code) (maxL := 1) (ret := (some .boolean)) (by decide) rfl ?_
  intro p e s m args below meth c s₁ B hml hv
  obtain ⟨rfl, hsz, hP, hK, hD0, hE⟩ := hv
  have hx := B.exec
  have hb := B.bytes
  have hr := B.returns
  have hts : ∀ w ∈ bc_G, w.before ([.ref h] : List Value).toArray s = true := fun w h => atoms_spec (ws := ws_MO_both) B.pre w (List.mem_cons_of_mem _ h)
  have hown : s.vm.findClass "BootChainModel" = some m.cls := findClass_of_methodNamed B.named
  have hlocks := B.notSynchronized
  subst hsz
  have hD := hD0.self (sz := s.heap.size)
  generalize hAe : va_A [(h, .inr (5, [.int th, .ref af, .ref ak, .ref ar, .ref ag, .int le, .int lo, .int da, .ref ad, .ref ac, .ref ab, .int si, .ref ax, .ref aw, .ref an, .ref av, .ref aa])), (ar, .inl (cI, 2, .inl rn))] s.heap.size = A at hD hE ⊢
  have hA : ∀ q : Nat, s.heap.size ≤ q → A q := fun q h => by rw [← hAe]; exact Or.inr h
  have hS : va_S A s.heap s.heap [] := va_S.rf
  have hl := lv_entry ([.ref h]) (n := 1) (Nat.le_of_ble_eq_true rfl)
  rw [lg_entry_eq]
  generalize (lg_sl ([.ref h]) ++ List.replicate (1 - (lg_sl ([.ref h])).length) Slot.unset).toArray = ls at hl ⊢
  have hl : lv_has ls 1 [(0, .ref h)] := hl
  refine lv_aload_n hx hb d_MO_both_0 rfl (lv_at hl 0 rfl) ?_
  refine va_get (D := (dC, dI)) (ci := 5) (v := .ref ar) (C := R_MO) (T := F_MO) (N := 17) hx hb hts in_MO hown hK hP 0 rfl rfl 3 (by decide) (hts _ gw_521) (fun _ h9 => h9) rfl d_MO_both_1 ?_
  refine lv_iconst (v := 0) hx hb d_MO_both_4 (by decide) ?_
  refine va_iald hx hb hK hP 1 0 rfl rfl (by unfold vp_in; decide +kernel) d_MO_both_5 ?_
  refine lv_if_lt (tgt := 22) hx hb d_MO_both_6 (by decide) (fun h3 => ?_) (fun h3 => ?_)
  · refine lv_iconst (v := 0) hx hb d_MO_both_22 (by decide) ?_
    have e0 : (f_MO_both th le lo da si rn) = (0 : Int32) := by rw [f_MO_both, if_pos h3]
    rw [e0]
    exact W.zret (v := (0 : Int32)) (ty := .boolean) hx hb hr (rfl) (fun t ht hW => ⟨⟨(0 : Int32), (), rfl, rfl, by rw [ht]; exact hP, va_K.moved hW.alike hK, hD⟩, hS.F ht⟩) hS.2.2 d_MO_both_23
  · refine lv_aload_n hx hb d_MO_both_9 rfl (lv_at hl 0 rfl) ?_
    refine va_get (D := (dC, dI)) (ci := 5) (v := .ref ar) (C := R_MO) (T := F_MO) (N := 17) hx hb hts in_MO hown hK hP 0 rfl rfl 3 (by decide) (hts _ gw_521) (fun _ h9 => h9) rfl d_MO_both_10 ?_
    refine lv_iconst (v := 1) hx hb d_MO_both_13 (by decide) ?_
    refine va_iald hx hb hK hP 1 0 rfl rfl (by unfold vp_in; decide +kernel) d_MO_both_14 ?_
    refine lv_if_lt (tgt := 22) hx hb d_MO_both_15 (by decide) (fun h4 => ?_) (fun h4 => ?_)
    · refine lv_iconst (v := 0) hx hb d_MO_both_22 (by decide) ?_
      have e0 : (f_MO_both th le lo da si rn) = (0 : Int32) := by rw [f_MO_both, if_neg h3, if_pos h4]
      rw [e0]
      exact W.zret (v := (0 : Int32)) (ty := .boolean) hx hb hr (rfl) (fun t ht hW => ⟨⟨(0 : Int32), (), rfl, rfl, by rw [ht]; exact hP, va_K.moved hW.alike hK, hD⟩, hS.F ht⟩) hS.2.2 d_MO_both_23
    · refine lv_iconst (v := 1) hx hb d_MO_both_18 (by decide) ?_
      refine lv_goto (tgt := 23) hx hb d_MO_both_19 (by decide) ?_
      have e0 : (f_MO_both th le lo da si rn) = (1 : Int32) := by rw [f_MO_both, if_neg h3, if_neg h4]
      rw [e0]
      exact W.zret (v := (1 : Int32)) (ty := .boolean) hx hb hr (rfl) (fun t ht hW => ⟨⟨(1 : Int32), (), rfl, rfl, by rw [ht]; exact hP, va_K.moved hW.alike hK, hD⟩, hS.F ht⟩) hS.2.2 d_MO_both_23
-- MO_power
theorem d_MO_power_0 : decode prog_8_method_25_code 0 = .ok (.aload_n 0, 1) := by decide +kernel
theorem d_MO_power_1 : decode prog_8_method_25_code 1 = .ok (.iload_n 1, 1) := by decide +kernel
theorem d_MO_power_2 : decode prog_8_method_25_code 2 = .ok (.iconst (-1), 1) := by decide +kernel
theorem d_MO_power_3 : decode prog_8_method_25_code 3 = .ok (.if_icmp .lt 10, 3) := by decide +kernel
theorem d_MO_power_6 : decode prog_8_method_25_code 6 = .ok (.iload_n 1, 1) := by decide +kernel
theorem d_MO_power_7 : decode prog_8_method_25_code 7 = .ok (.sipush 1000, 3) := by decide +kernel
theorem d_MO_power_10 : decode prog_8_method_25_code 10 = .ok (.if_icmp .le 7, 3) := by decide +kernel
theorem d_MO_power_13 : decode prog_8_method_25_code 13 = .ok (.iconst 1, 1) := by decide +kernel
theorem d_MO_power_14 : decode prog_8_method_25_code 14 = .ok (.goto 4, 3) := by decide +kernel
theorem d_MO_power_17 : decode prog_8_method_25_code 17 = .ok (.iconst 0, 1) := by decide +kernel
theorem d_MO_power_18 : decode prog_8_method_25_code 18 = .ok (.putfield 195, 3) := by decide +kernel
theorem d_MO_power_21 : decode prog_8_method_25_code 21 = .ok (.aload_n 0, 1) := by decide +kernel
theorem d_MO_power_22 : decode prog_8_method_25_code 22 = .ok (.getfield 195, 3) := by decide +kernel
theorem d_MO_power_25 : decode prog_8_method_25_code 25 = .ok (.ifCond .ne 8, 3) := by decide +kernel
theorem d_MO_power_28 : decode prog_8_method_25_code 28 = .ok (.aload_n 0, 1) := by decide +kernel
theorem d_MO_power_29 : decode prog_8_method_25_code 29 = .ok (.iload_n 1, 1) := by decide +kernel
theorem d_MO_power_30 : decode prog_8_method_25_code 30 = .ok (.putfield 22, 3) := by decide +kernel
theorem d_MO_power_33 : decode prog_8_method_25_code 33 = .ok (.return_, 1) := by decide +kernel
def y_MO_power : MethodName := ⟨"BootChainModel", "power", "(I)V"⟩
def ws_MO_power : List Cond := .code y_MO_power prog_8_method_25_code 2 none :: bc_G
def f_MO_power (n0 : Int32) (th : Int32) (le : Int32) (lo : Int32) (da : Int32) (si : Int32) : Int32 × Int32 := if n0 < (-1 : Int32) then if (1 : Int32) = 0 then ((1 : Int32), n0) else ((1 : Int32), le) else if n0 ≤ (1000 : Int32) then if (0 : Int32) = 0 then ((0 : Int32), n0) else ((0 : Int32), le) else if (1 : Int32) = 0 then ((1 : Int32), n0) else ((1 : Int32), le)
set_option maxHeartbeats 4000000 in
set_option maxRecDepth 100000 in
theorem c_MO_power (l : Launch) (dC : Nat → ClassId) (dI : Nat → Nat → Nat) (cI cJ : ClassId) (h af ak ar ag ad ac ab ax aw an av aa : Nat) (sz : Nat) (n0 : Int32) (th : Int32) (le : Int32) (lo : Int32) (da : Int32) (si : Int32) : Met l y_MO_power ws_MO_power ({ frames := 0, cells := 0, slots := 0, locals := 0 } : Room) (va_Pc [.ref h, .int n0] (bc_pre (dC, dI) cI cJ [(h, .inr (5, [.int th, .ref af, .ref ak, .ref ar, .ref ag, .int le, .int lo, .int da, .ref ad, .ref ac, .ref ab, .int si, .ref ax, .ref aw, .ref an, .ref av, .ref aa]))] sz)) (va_Qv (fun (_ : Unit) => True) (fun _ => bc_post (dC, dI) cI cJ (va_A [(h, .inr (5, [.int th, .ref af, .ref ak, .ref ar, .ref ag, .int le, .int lo, .int da, .ref ad, .ref ac, .ref ab, .int si, .ref ax, .ref aw, .ref an, .ref av, .ref aa]))] sz) [(h, .inr (5, [.int (f_MO_power n0 th le lo da si).1, .ref af, .ref ak, .ref ar, .ref ag, .int (f_MO_power n0 th le lo da si).2, .int lo, .int da, .ref ad, .ref ac, .ref ab, .int si, .ref ax, .ref aw, .ref an, .ref av, .ref aa]))]) (va_A [(h, .inr (5, [.int th, .ref af, .ref ak, .ref ar, .ref ag, .int le, .int lo, .int da, .ref ad, .ref ac, .ref ab, .int si, .ref ax, .ref aw, .ref an, .ref av, .ref aa]))] sz)) 0 0 (va_A [(h, .inr (5, [.int th, .ref af, .ref ak, .ref ar, .ref ag, .int le, .int lo, .int da, .ref ad, .ref ac, .ref ab, .int si, .ref ax, .ref aw, .ref an, .ref av, .ref aa]))] sz) := by
  refine Met.ofW (cc := prog_8_method_25_code) (maxL := 2) (ret := none) (by decide) rfl ?_
  intro p e s m args below meth c s₁ B hml hv
  obtain ⟨rfl, hsz, hP, hK, hD0, hE⟩ := hv
  have hx := B.exec
  have hb := B.bytes
  have hr := B.returns
  have hts : ∀ w ∈ bc_G, w.before ([.ref h, .int n0] : List Value).toArray s = true := fun w h => atoms_spec (ws := ws_MO_power) B.pre w (List.mem_cons_of_mem _ h)
  have hown : s.vm.findClass "BootChainModel" = some m.cls := findClass_of_methodNamed B.named
  have hlocks := B.notSynchronized
  subst hsz
  have hD := hD0.self (sz := s.heap.size)
  generalize hAe : va_A [(h, .inr (5, [.int th, .ref af, .ref ak, .ref ar, .ref ag, .int le, .int lo, .int da, .ref ad, .ref ac, .ref ab, .int si, .ref ax, .ref aw, .ref an, .ref av, .ref aa]))] s.heap.size = A at hD hE ⊢
  have hA : ∀ q : Nat, s.heap.size ≤ q → A q := fun q h => by rw [← hAe]; exact Or.inr h
  have hS : va_S A s.heap s.heap [] := va_S.rf
  have hl := lv_entry ([.ref h, .int n0]) (n := 2) (Nat.le_of_ble_eq_true rfl)
  rw [lg_entry_eq]
  generalize (lg_sl ([.ref h, .int n0]) ++ List.replicate (2 - (lg_sl ([.ref h, .int n0])).length) Slot.unset).toArray = ls at hl ⊢
  have hl : lv_has ls 2 [(0, .ref h), (1, .int n0)] := hl
  refine lv_aload_n hx hb d_MO_power_0 rfl (lv_at hl 0 rfl) ?_
  refine lv_iload_n hx hb d_MO_power_1 rfl (lv_at hl 1 rfl) ?_
  refine lv_iconst (v := (-1)) hx hb d_MO_power_2 (by decide) ?_
  refine lv_icmp_lt (tgt := 13) hx hb d_MO_power_3 (by decide) (fun h6 => ?_) (fun h6 => ?_)
  · refine lv_iconst (v := 1) hx hb d_MO_power_13 (by decide) ?_
    refine lv_goto (tgt := 18) hx hb d_MO_power_14 (by decide) ?_
    refine va_put (D := (dC, dI)) (ci := 5) (v := .int (1 : Int32)) (ty := .int) (C := R_MO) (T := F_MO) (N := 17) hx hb hts in_MO t_MO t_MO_ok n_MO hown hK hP hD hS 0 rfl rfl 0 (by decide) (hts _ gw_518) (fun _ h9 => h9) rfl (by decide +kernel) rfl rfl (Nat.le_of_ble_eq_true rfl) d_MO_power_18 (fun H locs hP hD hS => ?_)
    have hP : va_P (dC, dI) classes [(h, .inr (5, [.int (1 : Int32), .ref af, .ref ak, .ref ar, .ref ag, .int le, .int lo, .int da, .ref ad, .ref ac, .ref ab, .int si, .ref ax, .ref aw, .ref an, .ref av, .ref aa]))] H := hP
    have hD : va_D A [(h, .inr (5, [.int (1 : Int32), .ref af, .ref ak, .ref ar, .ref ag, .int le, .int lo, .int da, .ref ad, .ref ac, .ref ab, .int si, .ref ax, .ref aw, .ref an, .ref av, .ref aa]))] := hD
    refine lv_aload_n hx hb d_MO_power_21 rfl (lv_at hl 0 rfl) ?_
    refine va_get (D := (dC, dI)) (ci := 5) (v := .int (1 : Int32)) (C := R_MO) (T := F_MO) (N := 17) hx hb hts in_MO hown hK hP 0 rfl rfl 0 (by decide) (hts _ gw_518) (fun _ h9 => h9) rfl d_MO_power_22 ?_
    refine lv_if_ne (tgt := 33) hx hb d_MO_power_25 (by decide) (fun h7 => ?_) (fun h7 => ?_)
    · have e0 : (f_MO_power n0 th le lo da si) = ((1 : Int32), le) := by rw [f_MO_power, if_pos h6, if_neg h7]
      rw [e0]
      exact W.vret hx hb hr (fun t ht hW => ⟨⟨(), rfl, trivial, by rw [ht]; exact hP, va_K.moved hW.alike hK, hD⟩, hS.F ht⟩) hS.2.2 d_MO_power_33
    · refine lv_aload_n hx hb d_MO_power_28 rfl (lv_at hl 0 rfl) ?_
      refine lv_iload_n hx hb d_MO_power_29 rfl (lv_at hl 1 rfl) ?_
      refine va_put (D := (dC, dI)) (ci := 5) (v := .int n0) (ty := .int) (C := R_MO) (T := F_MO) (N := 17) hx hb hts in_MO t_MO t_MO_ok n_MO hown hK hP hD hS 0 rfl rfl 5 (by decide) (hts _ gw_523) (fun _ h9 => h9) rfl (by decide +kernel) rfl rfl (Nat.le_of_ble_eq_true rfl) d_MO_power_30 (fun H locs hP hD hS => ?_)
      have hP : va_P (dC, dI) classes [(h, .inr (5, [.int (1 : Int32), .ref af, .ref ak, .ref ar, .ref ag, .int n0, .int lo, .int da, .ref ad, .ref ac, .ref ab, .int si, .ref ax, .ref aw, .ref an, .ref av, .ref aa]))] H := hP
      have hD : va_D A [(h, .inr (5, [.int (1 : Int32), .ref af, .ref ak, .ref ar, .ref ag, .int n0, .int lo, .int da, .ref ad, .ref ac, .ref ab, .int si, .ref ax, .ref aw, .ref an, .ref av, .ref aa]))] := hD
      have e0 : (f_MO_power n0 th le lo da si) = ((1 : Int32), n0) := by rw [f_MO_power, if_pos h6, if_pos h7]
      rw [e0]
      exact W.vret hx hb hr (fun t ht hW => ⟨⟨(), rfl, trivial, by rw [ht]; exact hP, va_K.moved hW.alike hK, hD⟩, hS.F ht⟩) hS.2.2 d_MO_power_33
  · refine lv_iload_n hx hb d_MO_power_6 rfl (lv_at hl 1 rfl) ?_
    refine lv_sipush (v := 1000) hx hb d_MO_power_7 (by decide) ?_
    refine lv_icmp_le (tgt := 17) hx hb d_MO_power_10 (by decide) (fun h8 => ?_) (fun h8 => ?_)
    · refine lv_iconst (v := 0) hx hb d_MO_power_17 (by decide) ?_
      refine va_put (D := (dC, dI)) (ci := 5) (v := .int (0 : Int32)) (ty := .int) (C := R_MO) (T := F_MO) (N := 17) hx hb hts in_MO t_MO t_MO_ok n_MO hown hK hP hD hS 0 rfl rfl 0 (by decide) (hts _ gw_518) (fun _ h9 => h9) rfl (by decide +kernel) rfl rfl (Nat.le_of_ble_eq_true rfl) d_MO_power_18 (fun H locs hP hD hS => ?_)
      have hP : va_P (dC, dI) classes [(h, .inr (5, [.int (0 : Int32), .ref af, .ref ak, .ref ar, .ref ag, .int le, .int lo, .int da, .ref ad, .ref ac, .ref ab, .int si, .ref ax, .ref aw, .ref an, .ref av, .ref aa]))] H := hP
      have hD : va_D A [(h, .inr (5, [.int (0 : Int32), .ref af, .ref ak, .ref ar, .ref ag, .int le, .int lo, .int da, .ref ad, .ref ac, .ref ab, .int si, .ref ax, .ref aw, .ref an, .ref av, .ref aa]))] := hD
      refine lv_aload_n hx hb d_MO_power_21 rfl (lv_at hl 0 rfl) ?_
      refine va_get (D := (dC, dI)) (ci := 5) (v := .int (0 : Int32)) (C := R_MO) (T := F_MO) (N := 17) hx hb hts in_MO hown hK hP 0 rfl rfl 0 (by decide) (hts _ gw_518) (fun _ h9 => h9) rfl d_MO_power_22 ?_
      refine lv_if_ne (tgt := 33) hx hb d_MO_power_25 (by decide) (fun h9 => ?_) (fun h9 => ?_)
      · have e0 : (f_MO_power n0 th le lo da si) = ((0 : Int32), le) := by rw [f_MO_power, if_neg h6, if_pos h8, if_neg h9]
        rw [e0]
        exact W.vret hx hb hr (fun t ht hW => ⟨⟨(), rfl, trivial, by rw [ht]; exact hP, va_K.moved hW.alike hK, hD⟩, hS.F ht⟩) hS.2.2 d_MO_power_33
      · refine lv_aload_n hx hb d_MO_power_28 rfl (lv_at hl 0 rfl) ?_
        refine lv_iload_n hx hb d_MO_power_29 rfl (lv_at hl 1 rfl) ?_
        refine va_put (D := (dC, dI)) (ci := 5) (v := .int n0) (ty := .int) (C := R_MO) (T := F_MO) (N := 17) hx hb hts in_MO t_MO t_MO_ok n_MO hown hK hP hD hS 0 rfl rfl 5 (by decide) (hts _ gw_523) (fun _ h9 => h9) rfl (by decide +kernel) rfl rfl (Nat.le_of_ble_eq_true rfl) d_MO_power_30 (fun H locs hP hD hS => ?_)
        have hP : va_P (dC, dI) classes [(h, .inr (5, [.int (0 : Int32), .ref af, .ref ak, .ref ar, .ref ag, .int n0, .int lo, .int da, .ref ad, .ref ac, .ref ab, .int si, .ref ax, .ref aw, .ref an, .ref av, .ref aa]))] H := hP
        have hD : va_D A [(h, .inr (5, [.int (0 : Int32), .ref af, .ref ak, .ref ar, .ref ag, .int n0, .int lo, .int da, .ref ad, .ref ac, .ref ab, .int si, .ref ax, .ref aw, .ref an, .ref av, .ref aa]))] := hD
        have e0 : (f_MO_power n0 th le lo da si) = ((0 : Int32), n0) := by rw [f_MO_power, if_neg h6, if_pos h8, if_pos h9]
        rw [e0]
        exact W.vret hx hb hr (fun t ht hW => ⟨⟨(), rfl, trivial, by rw [ht]; exact hP, va_K.moved hW.alike hK, hD⟩, hS.F ht⟩) hS.2.2 d_MO_power_33
    · refine lv_iconst (v := 1) hx hb d_MO_power_13 (by decide) ?_
      refine lv_goto (tgt := 18) hx hb d_MO_power_14 (by decide) ?_
      refine va_put (D := (dC, dI)) (ci := 5) (v := .int (1 : Int32)) (ty := .int) (C := R_MO) (T := F_MO) (N := 17) hx hb hts in_MO t_MO t_MO_ok n_MO hown hK hP hD hS 0 rfl rfl 0 (by decide) (hts _ gw_518) (fun _ h9 => h9) rfl (by decide +kernel) rfl rfl (Nat.le_of_ble_eq_true rfl) d_MO_power_18 (fun H locs hP hD hS => ?_)
      have hP : va_P (dC, dI) classes [(h, .inr (5, [.int (1 : Int32), .ref af, .ref ak, .ref ar, .ref ag, .int le, .int lo, .int da, .ref ad, .ref ac, .ref ab, .int si, .ref ax, .ref aw, .ref an, .ref av, .ref aa]))] H := hP
      have hD : va_D A [(h, .inr (5, [.int (1 : Int32), .ref af, .ref ak, .ref ar, .ref ag, .int le, .int lo, .int da, .ref ad, .ref ac, .ref ab, .int si, .ref ax, .ref aw, .ref an, .ref av, .ref aa]))] := hD
      refine lv_aload_n hx hb d_MO_power_21 rfl (lv_at hl 0 rfl) ?_
      refine va_get (D := (dC, dI)) (ci := 5) (v := .int (1 : Int32)) (C := R_MO) (T := F_MO) (N := 17) hx hb hts in_MO hown hK hP 0 rfl rfl 0 (by decide) (hts _ gw_518) (fun _ h9 => h9) rfl d_MO_power_22 ?_
      refine lv_if_ne (tgt := 33) hx hb d_MO_power_25 (by decide) (fun h10 => ?_) (fun h10 => ?_)
      · have e0 : (f_MO_power n0 th le lo da si) = ((1 : Int32), le) := by rw [f_MO_power, if_neg h6, if_neg h8, if_neg h10]
        rw [e0]
        exact W.vret hx hb hr (fun t ht hW => ⟨⟨(), rfl, trivial, by rw [ht]; exact hP, va_K.moved hW.alike hK, hD⟩, hS.F ht⟩) hS.2.2 d_MO_power_33
      · refine lv_aload_n hx hb d_MO_power_28 rfl (lv_at hl 0 rfl) ?_
        refine lv_iload_n hx hb d_MO_power_29 rfl (lv_at hl 1 rfl) ?_
        refine va_put (D := (dC, dI)) (ci := 5) (v := .int n0) (ty := .int) (C := R_MO) (T := F_MO) (N := 17) hx hb hts in_MO t_MO t_MO_ok n_MO hown hK hP hD hS 0 rfl rfl 5 (by decide) (hts _ gw_523) (fun _ h9 => h9) rfl (by decide +kernel) rfl rfl (Nat.le_of_ble_eq_true rfl) d_MO_power_30 (fun H locs hP hD hS => ?_)
        have hP : va_P (dC, dI) classes [(h, .inr (5, [.int (1 : Int32), .ref af, .ref ak, .ref ar, .ref ag, .int n0, .int lo, .int da, .ref ad, .ref ac, .ref ab, .int si, .ref ax, .ref aw, .ref an, .ref av, .ref aa]))] H := hP
        have hD : va_D A [(h, .inr (5, [.int (1 : Int32), .ref af, .ref ak, .ref ar, .ref ag, .int n0, .int lo, .int da, .ref ad, .ref ac, .ref ab, .int si, .ref ax, .ref aw, .ref an, .ref av, .ref aa]))] := hD
        have e0 : (f_MO_power n0 th le lo da si) = ((1 : Int32), n0) := by rw [f_MO_power, if_neg h6, if_neg h8, if_pos h10]
        rw [e0]
        exact W.vret hx hb hr (fun t ht hW => ⟨⟨(), rfl, trivial, by rw [ht]; exact hP, va_K.moved hW.alike hK, hD⟩, hS.F ht⟩) hS.2.2 d_MO_power_33
-- MO_placeOf
theorem d_MO_placeOf_0 : decode prog_8_method_32_code 0 = .ok (.iload_n 0, 1) := by decide +kernel
theorem d_MO_placeOf_1 : decode prog_8_method_32_code 1 = .ok (.bipush 6, 2) := by decide +kernel
theorem d_MO_placeOf_3 : decode prog_8_method_32_code 3 = .ok (.invokestatic 256, 3) := by decide +kernel
theorem d_MO_placeOf_6 : decode prog_8_method_32_code 6 = .ok (.ifCond .ne 21, 3) := by decide +kernel
theorem d_MO_placeOf_9 : decode prog_8_method_32_code 9 = .ok (.iload_n 1, 1) := by decide +kernel
theorem d_MO_placeOf_10 : decode prog_8_method_32_code 10 = .ok (.iload_n 0, 1) := by decide +kernel
theorem d_MO_placeOf_11 : decode prog_8_method_32_code 11 = .ok (.iconst 4, 1) := by decide +kernel
theorem d_MO_placeOf_12 : decode prog_8_method_32_code 12 = .ok (.if_icmp .ge 8, 3) := by decide +kernel
theorem d_MO_placeOf_15 : decode prog_8_method_32_code 15 = .ok (.bipush 16, 2) := by decide +kernel
theorem d_MO_placeOf_17 : decode prog_8_method_32_code 17 = .ok (.goto 4, 3) := by decide +kernel
theorem d_MO_placeOf_20 : decode prog_8_method_32_code 20 = .ok (.iconst 3, 1) := by decide +kernel
theorem d_MO_placeOf_21 : decode prog_8_method_32_code 21 = .ok (.invokestatic 256, 3) := by decide +kernel
theorem d_MO_placeOf_24 : decode prog_8_method_32_code 24 = .ok (.ifCond .eq 5, 3) := by decide +kernel
theorem d_MO_placeOf_27 : decode prog_8_method_32_code 27 = .ok (.iconst (-1), 1) := by decide +kernel
theorem d_MO_placeOf_28 : decode prog_8_method_32_code 28 = .ok (.ireturn, 1) := by decide +kernel
theorem d_MO_placeOf_29 : decode prog_8_method_32_code 29 = .ok (.iload_n 0, 1) := by decide +kernel
theorem d_MO_placeOf_30 : decode prog_8_method_32_code 30 = .ok (.iconst 4, 1) := by decide +kernel
theorem d_MO_placeOf_31 : decode prog_8_method_32_code 31 = .ok (.if_icmp .ge 12, 3) := by decide +kernel
theorem d_MO_placeOf_34 : decode prog_8_method_32_code 34 = .ok (.bipush 16, 2) := by decide +kernel
theorem d_MO_placeOf_36 : decode prog_8_method_32_code 36 = .ok (.iload_n 0, 1) := by decide +kernel
theorem d_MO_placeOf_37 : decode prog_8_method_32_code 37 = .ok (.imul, 1) := by decide +kernel
theorem d_MO_placeOf_38 : decode prog_8_method_32_code 38 = .ok (.iload_n 1, 1) := by decide +kernel
theorem d_MO_placeOf_39 : decode prog_8_method_32_code 39 = .ok (.iadd, 1) := by decide +kernel
theorem d_MO_placeOf_40 : decode prog_8_method_32_code 40 = .ok (.goto 13, 3) := by decide +kernel
theorem d_MO_placeOf_43 : decode prog_8_method_32_code 43 = .ok (.bipush 64, 2) := by decide +kernel
theorem d_MO_placeOf_45 : decode prog_8_method_32_code 45 = .ok (.iconst 3, 1) := by decide +kernel
theorem d_MO_placeOf_46 : decode prog_8_method_32_code 46 = .ok (.iload_n 0, 1) := by decide +kernel
theorem d_MO_placeOf_47 : decode prog_8_method_32_code 47 = .ok (.iconst 4, 1) := by decide +kernel
theorem d_MO_placeOf_48 : decode prog_8_method_32_code 48 = .ok (.isub, 1) := by decide +kernel
theorem d_MO_placeOf_49 : decode prog_8_method_32_code 49 = .ok (.imul, 1) := by decide +kernel
theorem d_MO_placeOf_50 : decode prog_8_method_32_code 50 = .ok (.iadd, 1) := by decide +kernel
theorem d_MO_placeOf_51 : decode prog_8_method_32_code 51 = .ok (.iload_n 1, 1) := by decide +kernel
theorem d_MO_placeOf_52 : decode prog_8_method_32_code 52 = .ok (.iadd, 1) := by decide +kernel
theorem d_MO_placeOf_53 : decode prog_8_method_32_code 53 = .ok (.ireturn, 1) := by decide +kernel
def y_MO_placeOf : MethodName := ⟨"BootChainModel", "placeOf", "(II)I"⟩
def ws_MO_placeOf : List Cond := .code y_MO_placeOf prog_8_method_32_code 2 (some .int) :: bc_G
def f_MO_placeOf_j21 (pl : Int32) (wd : Int32) (t0 : Int32) (t1 : Int32) : Int32 := if (f_MO_out t1 t0) = 0 then if (4 : Int32) ≤ pl then (((64 : Int32) + ((3 : Int32) * (pl - (4 : Int32)))) + wd) else (((16 : Int32) * pl) + wd) else (-1 : Int32)
def f_MO_placeOf (pl : Int32) (wd : Int32) : Int32 := if (f_MO_out pl (6 : Int32)) = 0 then if (4 : Int32) ≤ pl then f_MO_placeOf_j21 pl wd (3 : Int32) wd else f_MO_placeOf_j21 pl wd (16 : Int32) wd else (-1 : Int32)
set_option maxHeartbeats 4000000 in
set_option maxRecDepth 100000 in
theorem c_MO_placeOf (l : Launch) (dC : Nat → ClassId) (dI : Nat → Nat → Nat) (cI cJ : ClassId) (sz : Nat) (pl : Int32) (wd : Int32) : Met l y_MO_placeOf ws_MO_placeOf ({ frames := 1, cells := 0, slots := 0, locals := 21 } : Room) (va_Pc [.int pl, .int wd] (bc_pre (dC, dI) cI cJ [] sz)) (va_Qi (fun (r : Int32) (_ : Unit) => r = (f_MO_placeOf pl wd)) (fun _ => bc_post (dC, dI) cI cJ (va_A [] sz) []) (va_A [] sz)) 0 0 (va_A [] sz) := by
  refine Met.ofW (cc := prog_8_method_32_code) (maxL := 2) (ret := (some .int)) (by decide) rfl ?_
  intro p e s m args below meth c s₁ B hml hv
  obtain ⟨rfl, hsz, hP, hK, hD0, hE⟩ := hv
  have hx := B.exec
  have hb := B.bytes
  have hr := B.returns
  have hts : ∀ w ∈ bc_G, w.before ([.int pl, .int wd] : List Value).toArray s = true := fun w h => atoms_spec (ws := ws_MO_placeOf) B.pre w (List.mem_cons_of_mem _ h)
  have hown : s.vm.findClass "BootChainModel" = some m.cls := findClass_of_methodNamed B.named
  have hlocks := B.notSynchronized
  subst hsz
  have hD := hD0.self (sz := s.heap.size)
  generalize hAe : va_A [] s.heap.size = A at hD hE ⊢
  have hA : ∀ q : Nat, s.heap.size ≤ q → A q := fun q h => by rw [← hAe]; exact Or.inr h
  have hS : va_S A s.heap s.heap [] := va_S.rf
  have jn_21 : ∀ (t0 : Int32) (t1 : Int32) (H : Heap) (locs : List Loc) (ls : Array Slot), lv_has ls 2 [(0, .int pl), (1, .int wd)] → va_P (dC, dI) classes [] H → va_D A [] → va_S A s.heap H locs → W p l e (headSpec ws_MO_placeOf ({ frames := 1, cells := 0, slots := 0, locals := 21 } : Room)).room s m ([.int pl, .int wd] : List Value).toArray below meth c H locs 0 0 (MQ below (va_Qi (fun (r : Int32) (_ : Unit) => r = (f_MO_placeOf_j21 pl wd t0 t1)) (fun _ => bc_post (dC, dI) cI cJ A []) A) ([.int pl, .int wd] : List Value).toArray s 0 0 A) (F0 m 21 ls [.int t0, .int t1]) := by
    intro t0 t1 H locs ls hl hP hD hS
    have hPc := hP.sub (ws' := []) [] rfl
    have hDc := hD.sub (ws' := []) [] (by decide) rfl
    have hFc := va_free (wc := []) hD hS hA [] rfl
    refine va_calli (va_runS (As := [.int t1, .int t0]) (rest := []) ⟨hx, hb, hml, hown, hts⟩ (c_MO_out l dC dI cI cJ _ t1 t0) ⟨callB_of 2 hts (bc_good gw_569) rfl rfl rfl (hts _ gw_6) (hts _ gw_567) (by decide +kernel) ⟨Nat.le_of_ble_eq_true rfl, Nat.le_of_ble_eq_true rfl⟩, (hts _ gw_568)⟩ ⟨bc_blind, fun U hU hW => ⟨rfl, bc_give hPc hDc hK hE hS hFc U hU hW⟩⟩ rfl rfl hl.1 rfl (lv_room (Nat.le_of_ble_eq_true rfl)) d_MO_placeOf_21 ⟨Nat.le_of_ble_eq_true rfl, Nat.le_of_ble_eq_true rfl⟩) hS (fun q _ h => hFc q h) hFc (fun r u t H9 locs ht hvm hp hB hz1 hk1 hS => ?_)
    subst hp
    obtain ⟨hP, hD⟩ := va_join (wr := []) (w1 := []) hP hD [] [] rfl rfl (by decide) (by decide) hk1 hFc (ht ▸ hB.1) hB.2.2
    have hP := hP.sub (ws' := []) [] rfl
    have hD := hD.sub (ws' := []) [] (by decide) rfl
    generalize H9 = H at hP hS ⊢
    refine lv_if_eq (tgt := 29) hx hb d_MO_placeOf_24 (by decide) (fun h7 => ?_) (fun h7 => ?_)
    · refine lv_iload_n hx hb d_MO_placeOf_29 rfl (lv_at hl 0 rfl) ?_
      refine lv_iconst (v := 4) hx hb d_MO_placeOf_30 (by decide) ?_
      refine lv_icmp_ge (tgt := 43) hx hb d_MO_placeOf_31 (by decide) (fun h8 => ?_) (fun h8 => ?_)
      · refine lv_bipush (v := 64) hx hb d_MO_placeOf_43 (by decide) ?_
        refine lv_iconst (v := 3) hx hb d_MO_placeOf_45 (by decide) ?_
        refine lv_iload_n hx hb d_MO_placeOf_46 rfl (lv_at hl 0 rfl) ?_
        refine lv_iconst (v := 4) hx hb d_MO_placeOf_47 (by decide) ?_
        refine lv_isub hx hb d_MO_placeOf_48 ?_
        refine lv_imul hx hb d_MO_placeOf_49 ?_
        refine lv_iadd hx hb d_MO_placeOf_50 ?_
        refine lv_iload_n hx hb d_MO_placeOf_51 rfl (lv_at hl 1 rfl) ?_
        refine lv_iadd hx hb d_MO_placeOf_52 ?_
        have e0 : (f_MO_placeOf_j21 pl wd t0 t1) = (((64 : Int32) + ((3 : Int32) * (pl - (4 : Int32)))) + wd) := by rw [f_MO_placeOf_j21, if_pos h7, if_pos h8]
        rw [e0]
        exact W.iret (v := (((64 : Int32) + ((3 : Int32) * (pl - (4 : Int32)))) + wd)) hx hb hr (fun t ht hW => ⟨⟨(((64 : Int32) + ((3 : Int32) * (pl - (4 : Int32)))) + wd), (), rfl, rfl, by rw [ht]; exact hP, va_K.moved hW.alike hK, hD⟩, hS.F ht⟩) hS.2.2 d_MO_placeOf_53
      · refine lv_bipush (v := 16) hx hb d_MO_placeOf_34 (by decide) ?_
        refine lv_iload_n hx hb d_MO_placeOf_36 rfl (lv_at hl 0 rfl) ?_
        refine lv_imul hx hb d_MO_placeOf_37 ?_
        refine lv_iload_n hx hb d_MO_placeOf_38 rfl (lv_at hl 1 rfl) ?_
        refine lv_iadd hx hb d_MO_placeOf_39 ?_
        refine lv_goto (tgt := 53) hx hb d_MO_placeOf_40 (by decide) ?_
        have e0 : (f_MO_placeOf_j21 pl wd t0 t1) = (((16 : Int32) * pl) + wd) := by rw [f_MO_placeOf_j21, if_pos h7, if_neg h8]
        rw [e0]
        exact W.iret (v := (((16 : Int32) * pl) + wd)) hx hb hr (fun t ht hW => ⟨⟨(((16 : Int32) * pl) + wd), (), rfl, rfl, by rw [ht]; exact hP, va_K.moved hW.alike hK, hD⟩, hS.F ht⟩) hS.2.2 d_MO_placeOf_53
    · refine lv_iconst (v := (-1)) hx hb d_MO_placeOf_27 (by decide) ?_
      have e0 : (f_MO_placeOf_j21 pl wd t0 t1) = (-1 : Int32) := by rw [f_MO_placeOf_j21, if_neg h7]
      rw [e0]
      exact W.iret (v := (-1 : Int32)) hx hb hr (fun t ht hW => ⟨⟨(-1 : Int32), (), rfl, rfl, by rw [ht]; exact hP, va_K.moved hW.alike hK, hD⟩, hS.F ht⟩) hS.2.2 d_MO_placeOf_28
  have hl := lv_entry ([.int pl, .int wd]) (n := 2) (Nat.le_of_ble_eq_true rfl)
  rw [lg_entry_eq]
  generalize (lg_sl ([.int pl, .int wd]) ++ List.replicate (2 - (lg_sl ([.int pl, .int wd])).length) Slot.unset).toArray = ls at hl ⊢
  have hl : lv_has ls 2 [(0, .int pl), (1, .int wd)] := hl
  refine lv_iload_n hx hb d_MO_placeOf_0 rfl (lv_at hl 0 rfl) ?_
  refine lv_bipush (v := 6) hx hb d_MO_placeOf_1 (by decide) ?_
  have hPc := hP.sub (ws' := []) [] rfl
  have hDc := hD.sub (ws' := []) [] (by decide) rfl
  have hFc := va_free (wc := []) hD hS hA [] rfl
  refine va_calli (va_runS (As := [.int pl, .int (6 : Int32)]) (rest := []) ⟨hx, hb, hml, hown, hts⟩ (c_MO_out l dC dI cI cJ _ pl (6 : Int32)) ⟨callB_of 2 hts (bc_good gw_569) rfl rfl rfl (hts _ gw_6) (hts _ gw_567) (by decide +kernel) ⟨Nat.le_of_ble_eq_true rfl, Nat.le_of_ble_eq_true rfl⟩, (hts _ gw_568)⟩ ⟨bc_blind, fun U hU hW => ⟨rfl, bc_give hPc hDc hK hE hS hFc U hU hW⟩⟩ rfl rfl hl.1 rfl (lv_room (Nat.le_of_ble_eq_true rfl)) d_MO_placeOf_3 ⟨Nat.le_of_ble_eq_true rfl, Nat.le_of_ble_eq_true rfl⟩) hS (fun q _ h => hFc q h) hFc (fun r u t H9 locs ht hvm hp hB hz1 hk1 hS => ?_)
  subst hp
  obtain ⟨hP, hD⟩ := va_join (wr := []) (w1 := []) hP hD [] [] rfl rfl (by decide) (by decide) hk1 hFc (ht ▸ hB.1) hB.2.2
  have hP := hP.sub (ws' := []) [] rfl
  have hD := hD.sub (ws' := []) [] (by decide) rfl
  generalize H9 = H at hP hS ⊢
  refine lv_if_ne (tgt := 27) hx hb d_MO_placeOf_6 (by decide) (fun h5 => ?_) (fun h5 => ?_)
  · refine lv_iconst (v := (-1)) hx hb d_MO_placeOf_27 (by decide) ?_
    have e0 : (f_MO_placeOf pl wd) = (-1 : Int32) := by rw [f_MO_placeOf, if_neg h5]
    rw [e0]
    exact W.iret (v := (-1 : Int32)) hx hb hr (fun t ht hW => ⟨⟨(-1 : Int32), (), rfl, rfl, by rw [ht]; exact hP, va_K.moved hW.alike hK, hD⟩, hS.F ht⟩) hS.2.2 d_MO_placeOf_28
  · refine lv_iload_n hx hb d_MO_placeOf_9 rfl (lv_at hl 1 rfl) ?_
    refine lv_iload_n hx hb d_MO_placeOf_10 rfl (lv_at hl 0 rfl) ?_
    refine lv_iconst (v := 4) hx hb d_MO_placeOf_11 (by decide) ?_
    refine lv_icmp_ge (tgt := 20) hx hb d_MO_placeOf_12 (by decide) (fun h6 => ?_) (fun h6 => ?_)
    · refine lv_iconst (v := 3) hx hb d_MO_placeOf_20 (by decide) ?_
      have e0 : (f_MO_placeOf pl wd) = f_MO_placeOf_j21 pl wd (3 : Int32) wd := by rw [f_MO_placeOf, if_pos h5, if_pos h6]
      rw [e0]
      exact jn_21 (3 : Int32) wd _ _ ls (lv_sub hl [0, 1] rfl) hP hD hS
    · refine lv_bipush (v := 16) hx hb d_MO_placeOf_15 (by decide) ?_
      refine lv_goto (tgt := 21) hx hb d_MO_placeOf_17 (by decide) ?_
      have e0 : (f_MO_placeOf pl wd) = f_MO_placeOf_j21 pl wd (16 : Int32) wd := by rw [f_MO_placeOf, if_pos h5, if_neg h6]
      rw [e0]
      exact jn_21 (16 : Int32) wd _ _ ls (lv_sub hl [0, 1] rfl) hP hD hS
