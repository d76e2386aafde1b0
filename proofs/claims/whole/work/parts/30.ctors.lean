theorem bc_sameI {D : va_G} {cI cJ cA : ClassId} {s : State} (h : va_K D classes ([(cI, .int), (cJ, .long)] ++ [(cA, .int)]) s) : cI = cA := by
  have h1 : s.vm.findClass ("[" ++ (FieldType.int).toString) = some cI := (h.2 0 (cI, .int) rfl).2
  have h2 : s.vm.findClass ("[" ++ (FieldType.int).toString) = some cA := (h.2 2 (cA, .int) rfl).2
  exact Option.some.inj (h1.symm.trans h2)
theorem bc_sameJ {D : va_G} {cI cJ cA : ClassId} {s : State} (h : va_K D classes ([(cI, .int), (cJ, .long)] ++ [(cA, .long)]) s) : cJ = cA := by
  have h1 : s.vm.findClass ("[" ++ (FieldType.long).toString) = some cJ := (h.2 1 (cJ, .long) rfl).2
  have h2 : s.vm.findClass ("[" ++ (FieldType.long).toString) = some cA := (h.2 2 (cA, .long) rfl).2
  exact Option.some.inj (h1.symm.trans h2)

-- FL_init
theorem d_FL_init_0 : decode prog_3_method_1_code 0 = .ok (.aload_n 0, 1) := by decide +kernel
theorem d_FL_init_1 : decode prog_3_method_1_code 1 = .ok (.invokespecial 3, 3) := by decide +kernel
theorem d_FL_init_4 : decode prog_3_method_1_code 4 = .ok (.aload_n 0, 1) := by decide +kernel
theorem d_FL_init_5 : decode prog_3_method_1_code 5 = .ok (.bipush 70, 2) := by decide +kernel
theorem d_FL_init_7 : decode prog_3_method_1_code 7 = .ok (.newarray .int, 2) := by decide +kernel
theorem d_FL_init_9 : decode prog_3_method_1_code 9 = .ok (.putfield 9, 3) := by decide +kernel
theorem d_FL_init_12 : decode prog_3_method_1_code 12 = .ok (.aload_n 0, 1) := by decide +kernel
theorem d_FL_init_13 : decode prog_3_method_1_code 13 = .ok (.iconst (-1), 1) := by decide +kernel
theorem d_FL_init_14 : decode prog_3_method_1_code 14 = .ok (.putfield 15, 3) := by decide +kernel
theorem d_FL_init_17 : decode prog_3_method_1_code 17 = .ok (.return_, 1) := by decide +kernel
def y_FL_init : MethodName := ⟨"BootChain$Flash", "<init>", "()V"⟩
def ws_FL_init : List Cond := .code y_FL_init prog_3_method_1_code 1 none :: bc_G
set_option maxHeartbeats 40000000 in
set_option maxRecDepth 100000 in
theorem c_FL_init (l : Launch) (dC : Nat → ClassId) (dI : Nat → Nat → Nat) (cI cJ : ClassId) (h : Nat) (sz : Nat) : Met l y_FL_init ws_FL_init ({ frames := 1, cells := 1, slots := 70, locals := 20 } : Room) (va_Pc [.ref h] (bc_pre (dC, dI) cI cJ [(h, .inr (1, [.null, .int 0]))] sz)) (va_Qv (fun (_ : Nat) => True) (fun u => bc_post (dC, dI) cI cJ (va_A [(h, .inr (1, [.null, .int 0]))] sz) [(h, .inr (1, [.ref (u), .int (-1 : Int32)])), ((u), .inl (cI, 70, .inl (fun _ => 0)))]) (va_A [(h, .inr (1, [.null, .int 0]))] sz)) 1 70 (va_A [(h, .inr (1, [.null, .int 0]))] sz) := by
  refine Met.ofW (cc := prog_3_method_1_code) (maxL := 1) (ret := none) (by decide) rfl ?_
  intro p e s m args below meth c s₁ B hml hv
  obtain ⟨rfl, hsz, hP, hK, hD0, hE⟩ := hv
  have hx := B.exec
  have hb := B.bytes
  have hr := B.returns
  have hts : ∀ w ∈ bc_G, w.before ([.ref h] : List Value).toArray s = true := fun w h => atoms_spec (ws := ws_FL_init) B.pre w (List.mem_cons_of_mem _ h)
  have hown : s.vm.findClass "BootChain$Flash" = some m.cls := findClass_of_methodNamed B.named
  have hlocks := B.notSynchronized
  have hin : meth.name = "<init>" := (name_of_methodNamed B.named B.method).1
  subst hsz
  have hD := hD0.self (sz := s.heap.size)
  generalize hAe : va_A [(h, .inr (1, [.null, .int 0]))] s.heap.size = A at hD hE ⊢
  have hA : ∀ q : Nat, s.heap.size ≤ q → A q := fun q h => by rw [← hAe]; exact Or.inr h
  have hS : va_S A s.heap s.heap [] := va_S.rf
  have hl := lv_entry ([.ref h]) (n := 1) (Nat.le_of_ble_eq_true rfl)
  rw [lg_entry_eq]
  generalize (lg_sl ([.ref h]) ++ List.replicate (1 - (lg_sl ([.ref h])).length) Slot.unset).toArray = ls at hl ⊢
  have hl : lv_has ls 1 [(0, .ref h)] := hl
  refine lv_aload_n hx hb d_FL_init_0 rfl (lv_at hl 0 rfl) ?_
  refine W.objInit hx hb hown (hts _ gw_26) (hts _ gw_20) (hts _ gw_21) rfl (by rw [hml]; exact hl.1) rfl d_FL_init_1 (Nat.le_of_ble_eq_true rfl) (Nat.le_of_ble_eq_true rfl) ?_
  refine W.eq (g2 := F0 m 4 ls []) rfl ?_
  refine lv_aload_n hx hb d_FL_init_4 rfl (lv_at hl 0 rfl) ?_
  refine lv_bipush (v := 70) hx hb d_FL_init_5 (by decide) ?_
  refine va_newa (atype := .int) (ty := .int) (a0 := (70, .inl (fun _ => 0))) hx hb (hts _ gw_32) rfl hK hP hD hS hA (fun _ => rfl) (by decide) (by decide) (by decide) (Nat.le_of_ble_eq_true rfl) (Nat.le_of_ble_eq_true rfl) d_FL_init_7 (fun q7 cA H hK9 hP hD hS => ?_)
  have e9 := bc_sameI hK9
  subst e9
  have hP : va_P (dC, dI) classes [(h, .inr (1, [.null, .int 0])), (q7, .inl (cI, 70, .inl (fun _ => 0)))] H := hP
  have hD : va_D A [(h, .inr (1, [.null, .int 0])), (q7, .inl (cI, 70, .inl (fun _ => 0)))] := hD
  refine va_putF (D := (dC, dI)) (ci := 1) (v := .ref q7) (ty := (.array .int)) (C := R_FL) (T := F_FL) (N := 2) hx hb hts in_FL t_FL t_FL_ok n_FL hown hK hP hD hS 0 rfl rfl 0 (by decide) (hts _ gw_27) (fun _ h9 => h9) rfl hin rfl (by decide +kernel) rfl rfl (Nat.le_of_ble_eq_true rfl) d_FL_init_9 (fun H locs hP hD hS => ?_)
  have hP : va_P (dC, dI) classes [(h, .inr (1, [.ref q7, .int 0])), (q7, .inl (cI, 70, .inl (fun _ => 0)))] H := hP
  have hD : va_D A [(h, .inr (1, [.ref q7, .int 0])), (q7, .inl (cI, 70, .inl (fun _ => 0)))] := hD
  refine lv_aload_n hx hb d_FL_init_12 rfl (lv_at hl 0 rfl) ?_
  refine lv_iconst (v := (-1)) hx hb d_FL_init_13 (by decide) ?_
  refine va_put (D := (dC, dI)) (ci := 1) (v := .int (-1 : Int32)) (ty := .int) (C := R_FL) (T := F_FL) (N := 2) hx hb hts in_FL t_FL t_FL_ok n_FL hown hK hP hD hS 0 rfl rfl 1 (by decide) (hts _ gw_28) (fun _ h9 => h9) rfl (by decide +kernel) rfl rfl (Nat.le_of_ble_eq_true rfl) d_FL_init_14 (fun H locs hP hD hS => ?_)
  have hP : va_P (dC, dI) classes [(h, .inr (1, [.ref q7, .int (-1 : Int32)])), (q7, .inl (cI, 70, .inl (fun _ => 0)))] H := hP
  have hD : va_D A [(h, .inr (1, [.ref q7, .int (-1 : Int32)])), (q7, .inl (cI, 70, .inl (fun _ => 0)))] := hD
  exact W.vret hx hb hr (fun t ht hW => ⟨⟨q7, rfl, trivial, by rw [ht]; exact hP, va_K.moved hW.alike hK, hD⟩, hS.F ht⟩) hS.2.2 d_FL_init_17
-- DR_init
theorem d_DR_init_0 : decode prog_2_method_1_code 0 = .ok (.aload_n 0, 1) := by decide +kernel
theorem d_DR_init_1 : decode prog_2_method_1_code 1 = .ok (.invokespecial 3, 3) := by decide +kernel
theorem d_DR_init_4 : decode prog_2_method_1_code 4 = .ok (.aload_n 0, 1) := by decide +kernel
theorem d_DR_init_5 : decode prog_2_method_1_code 5 = .ok (.bipush 6, 2) := by decide +kernel
theorem d_DR_init_7 : decode prog_2_method_1_code 7 = .ok (.newarray .int, 2) := by decide +kernel
theorem d_DR_init_9 : decode prog_2_method_1_code 9 = .ok (.putfield 9, 3) := by decide +kernel
theorem d_DR_init_12 : decode prog_2_method_1_code 12 = .ok (.return_, 1) := by decide +kernel
def y_DR_init : MethodName := ⟨"BootChain$Draft", "<init>", "()V"⟩
def ws_DR_init : List Cond := .code y_DR_init prog_2_method_1_code 1 none :: bc_G
set_option maxHeartbeats 40000000 in
set_option maxRecDepth 100000 in
theorem c_DR_init (l : Launch) (dC : Nat → ClassId) (dI : Nat → Nat → Nat) (cI cJ : ClassId) (h : Nat) (sz : Nat) : Met l y_DR_init ws_DR_init ({ frames := 1, cells := 1, slots := 6, locals := 20 } : Room) (va_Pc [.ref h] (bc_pre (dC, dI) cI cJ [(h, .inr (2, [.null, .int 0]))] sz)) (va_Qv (fun (_ : Nat) => True) (fun u => bc_post (dC, dI) cI cJ (va_A [(h, .inr (2, [.null, .int 0]))] sz) [(h, .inr (2, [.ref (u), .int 0])), ((u), .inl (cI, 6, .inl (fun _ => 0)))]) (va_A [(h, .inr (2, [.null, .int 0]))] sz)) 1 6 (va_A [(h, .inr (2, [.null, .int 0]))] sz) := by
  refine Met.ofW (cc := prog_2_method_1_code) (maxL := 1) (ret := none) (by decide) rfl ?_
  intro p e s m args below meth c s₁ B hml hv
  obtain ⟨rfl, hsz, hP, hK, hD0, hE⟩ := hv
  have hx := B.exec
  have hb := B.bytes
  have hr := B.returns
  have hts : ∀ w ∈ bc_G, w.before ([.ref h] : List Value).toArray s = true := fun w h => atoms_spec (ws := ws_DR_init) B.pre w (List.mem_cons_of_mem _ h)
  have hown : s.vm.findClass "BootChain$Draft" = some m.cls := findClass_of_methodNamed B.named
  have hlocks := B.notSynchronized
  have hin : meth.name = "<init>" := (name_of_methodNamed B.named B.method).1
  subst hsz
  have hD := hD0.self (sz := s.heap.size)
  generalize hAe : va_A [(h, .inr (2, [.null, .int 0]))] s.heap.size = A at hD hE ⊢
  have hA : ∀ q : Nat, s.heap.size ≤ q → A q := fun q h => by rw [← hAe]; exact Or.inr h
  have hS : va_S A s.heap s.heap [] := va_S.rf
  have hl := lv_entry ([.ref h]) (n := 1) (Nat.le_of_ble_eq_true rfl)
  rw [lg_entry_eq]
  generalize (lg_sl ([.ref h]) ++ List.replicate (1 - (lg_sl ([.ref h])).length) Slot.unset).toArray = ls at hl ⊢
  have hl : lv_has ls 1 [(0, .ref h)] := hl
  refine lv_aload_n hx hb d_DR_init_0 rfl (lv_at hl 0 rfl) ?_
  refine W.objInit hx hb hown (hts _ gw_37) (hts _ gw_20) (hts _ gw_21) rfl (by rw [hml]; exact hl.1) rfl d_DR_init_1 (Nat.le_of_ble_eq_true rfl) (Nat.le_of_ble_eq_true rfl) ?_
  refine W.eq (g2 := F0 m 4 ls []) rfl ?_
  refine lv_aload_n hx hb d_DR_init_4 rfl (lv_at hl 0 rfl) ?_
  refine lv_bipush (v := 6) hx hb d_DR_init_5 (by decide) ?_
  refine va_newa (atype := .int) (ty := .int) (a0 := (6, .inl (fun _ => 0))) hx hb (hts _ gw_32) rfl hK hP hD hS hA (fun _ => rfl) (by decide) (by decide) (by decide) (Nat.le_of_ble_eq_true rfl) (Nat.le_of_ble_eq_true rfl) d_DR_init_7 (fun q7 cA H hK9 hP hD hS => ?_)
  have e9 := bc_sameI hK9
  subst e9
  have hP : va_P (dC, dI) classes [(h, .inr (2, [.null, .int 0])), (q7, .inl (cI, 6, .inl (fun _ => 0)))] H := hP
  have hD : va_D A [(h, .inr (2, [.null, .int 0])), (q7, .inl (cI, 6, .inl (fun _ => 0)))] := hD
  refine va_putF (D := (dC, dI)) (ci := 2) (v := .ref q7) (ty := (.array .int)) (C := R_DR) (T := F_DR) (N := 2) hx hb hts in_DR t_DR t_DR_ok n_DR hown hK hP hD hS 0 rfl rfl 0 (by decide) (hts _ gw_38) (fun _ h9 => h9) rfl hin rfl (by decide +kernel) rfl rfl (Nat.le_of_ble_eq_true rfl) d_DR_init_9 (fun H locs hP hD hS => ?_)
  have hP : va_P (dC, dI) classes [(h, .inr (2, [.ref q7, .int 0])), (q7, .inl (cI, 6, .inl (fun _ => 0)))] H := hP
  have hD : va_D A [(h, .inr (2, [.ref q7, .int 0])), (q7, .inl (cI, 6, .inl (fun _ => 0)))] := hD
  exact W.vret hx hb hr (fun t ht hW => ⟨⟨q7, rfl, trivial, by rw [ht]; exact hP, va_K.moved hW.alike hK, hD⟩, hS.F ht⟩) hS.2.2 d_DR_init_12
-- IM_init
theorem d_IM_init_0 : decode prog_4_method_1_code 0 = .ok (.aload_n 0, 1) := by decide +kernel
theorem d_IM_init_1 : decode prog_4_method_1_code 1 = .ok (.invokespecial 3, 3) := by decide +kernel
theorem d_IM_init_4 : decode prog_4_method_1_code 4 = .ok (.aload_n 0, 1) := by decide +kernel
theorem d_IM_init_5 : decode prog_4_method_1_code 5 = .ok (.bipush 16, 2) := by decide +kernel
theorem d_IM_init_7 : decode prog_4_method_1_code 7 = .ok (.newarray .int, 2) := by decide +kernel
theorem d_IM_init_9 : decode prog_4_method_1_code 9 = .ok (.putfield 9, 3) := by decide +kernel
theorem d_IM_init_12 : decode prog_4_method_1_code 12 = .ok (.return_, 1) := by decide +kernel
def y_IM_init : MethodName := ⟨"BootChain$Image", "<init>", "()V"⟩
def ws_IM_init : List Cond := .code y_IM_init prog_4_method_1_code 1 none :: bc_G
set_option maxHeartbeats 40000000 in
set_option maxRecDepth 100000 in
theorem c_IM_init (l : Launch) (dC : Nat → ClassId) (dI : Nat → Nat → Nat) (cI cJ : ClassId) (h : Nat) (sz : Nat) : Met l y_IM_init ws_IM_init ({ frames := 1, cells := 1, slots := 16, locals := 20 } : Room) (va_Pc [.ref h] (bc_pre (dC, dI) cI cJ [(h, .inr (3, [.null]))] sz)) (va_Qv (fun (_ : Nat) => True) (fun u => bc_post (dC, dI) cI cJ (va_A [(h, .inr (3, [.null]))] sz) [(h, .inr (3, [.ref (u)])), ((u), .inl (cI, 16, .inl (fun _ => 0)))]) (va_A [(h, .inr (3, [.null]))] sz)) 1 16 (va_A [(h, .inr (3, [.null]))] sz) := by
  refine Met.ofW (cc := prog_4_method_1_code) (maxL := 1) (ret := none) (by decide) rfl ?_
  intro p e s m args below meth c s₁ B hml hv
  obtain ⟨rfl, hsz, hP, hK, hD0, hE⟩ := hv
  have hx := B.exec
  have hb := B.bytes
  have hr := B.returns
  have hts : ∀ w ∈ bc_G, w.before ([.ref h] : List Value).toArray s = true := fun w h => atoms_spec (ws := ws_IM_init) B.pre w (List.mem_cons_of_mem _ h)
  have hown : s.vm.findClass "BootChain$Image" = some m.cls := findClass_of_methodNamed B.named
  have hlocks := B.notSynchronized
  have hin : meth.name = "<init>" := (name_of_methodNamed B.named B.method).1
  subst hsz
  have hD := hD0.self (sz := s.heap.size)
  generalize hAe : va_A [(h, .inr (3, [.null]))] s.heap.size = A at hD hE ⊢
  have hA : ∀ q : Nat, s.heap.size ≤ q → A q := fun q h => by rw [← hAe]; exact Or.inr h
  have hS : va_S A s.heap s.heap [] := va_S.rf
  have hl := lv_entry ([.ref h]) (n := 1) (Nat.le_of_ble_eq_true rfl)
  rw [lg_entry_eq]
  generalize (lg_sl ([.ref h]) ++ List.replicate (1 - (lg_sl ([.ref h])).length) Slot.unset).toArray = ls at hl ⊢
  have hl : lv_has ls 1 [(0, .ref h)] := hl
  refine lv_aload_n hx hb d_IM_init_0 rfl (lv_at hl 0 rfl) ?_
  refine W.objInit hx hb hown (hts _ gw_47) (hts _ gw_20) (hts _ gw_21) rfl (by rw [hml]; exact hl.1) rfl d_IM_init_1 (Nat.le_of_ble_eq_true rfl) (Nat.le_of_ble_eq_true rfl) ?_
  refine W.eq (g2 := F0 m 4 ls []) rfl ?_
  refine lv_aload_n hx hb d_IM_init_4 rfl (lv_at hl 0 rfl) ?_
  refine lv_bipush (v := 16) hx hb d_IM_init_5 (by decide) ?_
  refine va_newa (atype := .int) (ty := .int) (a0 := (16, .inl (fun _ => 0))) hx hb (hts _ gw_32) rfl hK hP hD hS hA (fun _ => rfl) (by decide) (by decide) (by decide) (Nat.le_of_ble_eq_true rfl) (Nat.le_of_ble_eq_true rfl) d_IM_init_7 (fun q7 cA H hK9 hP hD hS => ?_)
  have e9 := bc_sameI hK9
  subst e9
  have hP : va_P (dC, dI) classes [(h, .inr (3, [.null])), (q7, .inl (cI, 16, .inl (fun _ => 0)))] H := hP
  have hD : va_D A [(h, .inr (3, [.null])), (q7, .inl (cI, 16, .inl (fun _ => 0)))] := hD
  refine va_putF (D := (dC, dI)) (ci := 3) (v := .ref q7) (ty := (.array .int)) (C := R_IM) (T := F_IM) (N := 1) hx hb hts in_IM t_IM t_IM_ok n_IM hown hK hP hD hS 0 rfl rfl 0 (by decide) (hts _ gw_48) (fun _ h9 => h9) rfl hin rfl (by decide +kernel) rfl rfl (Nat.le_of_ble_eq_true rfl) d_IM_init_9 (fun H locs hP hD hS => ?_)
  have hP : va_P (dC, dI) classes [(h, .inr (3, [.ref q7])), (q7, .inl (cI, 16, .inl (fun _ => 0)))] H := hP
  have hD : va_D A [(h, .inr (3, [.ref q7])), (q7, .inl (cI, 16, .inl (fun _ => 0)))] := hD
  exact W.vret hx hb hr (fun t ht hW => ⟨⟨q7, rfl, trivial, by rw [ht]; exact hP, va_K.moved hW.alike hK, hD⟩, hS.F ht⟩) hS.2.2 d_IM_init_12
-- SH_init
theorem d_SH_init_0 : decode prog_5_method_1_code 0 = .ok (.aload_n 0, 1) := by decide +kernel
theorem d_SH_init_1 : decode prog_5_method_1_code 1 = .ok (.invokespecial 3, 3) := by decide +kernel
theorem d_SH_init_4 : decode prog_5_method_1_code 4 = .ok (.aload_n 0, 1) := by decide +kernel
theorem d_SH_init_5 : decode prog_5_method_1_code 5 = .ok (.bipush 32, 2) := by decide +kernel
theorem d_SH_init_7 : decode prog_5_method_1_code 7 = .ok (.newarray .int, 2) := by decide +kernel
theorem d_SH_init_9 : decode prog_5_method_1_code 9 = .ok (.putfield 11, 3) := by decide +kernel
theorem d_SH_init_12 : decode prog_5_method_1_code 12 = .ok (.aload_n 0, 1) := by decide +kernel
theorem d_SH_init_13 : decode prog_5_method_1_code 13 = .ok (.bipush 64, 2) := by decide +kernel
theorem d_SH_init_15 : decode prog_5_method_1_code 15 = .ok (.newarray .int, 2) := by decide +kernel
theorem d_SH_init_17 : decode prog_5_method_1_code 17 = .ok (.putfield 15, 3) := by decide +kernel
theorem d_SH_init_20 : decode prog_5_method_1_code 20 = .ok (.aload_n 0, 1) := by decide +kernel
theorem d_SH_init_21 : decode prog_5_method_1_code 21 = .ok (.bipush 8, 2) := by decide +kernel
theorem d_SH_init_23 : decode prog_5_method_1_code 23 = .ok (.newarray .int, 2) := by decide +kernel
theorem d_SH_init_25 : decode prog_5_method_1_code 25 = .ok (.putfield 18, 3) := by decide +kernel
theorem d_SH_init_28 : decode prog_5_method_1_code 28 = .ok (.return_, 1) := by decide +kernel
def y_SH_init : MethodName := ⟨"BootChain$Sha256", "<init>", "()V"⟩
def ws_SH_init : List Cond := .code y_SH_init prog_5_method_1_code 1 none :: bc_G
set_option maxHeartbeats 40000000 in
set_option maxRecDepth 100000 in
theorem c_SH_init (l : Launch) (dC : Nat → ClassId) (dI : Nat → Nat → Nat) (cI cJ : ClassId) (h : Nat) (sz : Nat) : Met l y_SH_init ws_SH_init ({ frames := 1, cells := 3, slots := 104, locals := 20 } : Room) (va_Pc [.ref h] (bc_pre (dC, dI) cI cJ [(h, .inr (4, [.null, .null, .null, .int 0]))] sz)) (va_Qv (fun (_ : Nat × Nat × Nat) => True) (fun u => bc_post (dC, dI) cI cJ (va_A [(h, .inr (4, [.null, .null, .null, .int 0]))] sz) [(h, .inr (4, [.ref (u.1), .ref (u.2.1), .ref (u.2.2), .int 0])), ((u.1), .inl (cI, 32, .inl (fun _ => 0))), ((u.2.1), .inl (cI, 64, .inl (fun _ => 0))), ((u.2.2), .inl (cI, 8, .inl (fun _ => 0)))]) (va_A [(h, .inr (4, [.null, .null, .null, .int 0]))] sz)) 3 104 (va_A [(h, .inr (4, [.null, .null, .null, .int 0]))] sz) := by
  refine Met.ofW (cc := prog_5_method_1_code) (maxL := 1) (ret := none) (by decide) rfl ?_
  intro p e s m args below meth c s₁ B hml hv
  obtain ⟨rfl, hsz, hP, hK, hD0, hE⟩ := hv
  have hx := B.exec
  have hb := B.bytes
  have hr := B.returns
  have hts : ∀ w ∈ bc_G, w.before ([.ref h] : List Value).toArray s = true := fun w h => atoms_spec (ws := ws_SH_init) B.pre w (List.mem_cons_of_mem _ h)
  have hown : s.vm.findClass "BootChain$Sha256" = some m.cls := findClass_of_methodNamed B.named
  have hlocks := B.notSynchronized
  have hin : meth.name = "<init>" := (name_of_methodNamed B.named B.method).1
  subst hsz
  have hD := hD0.self (sz := s.heap.size)
  generalize hAe : va_A [(h, .inr (4, [.null, .null, .null, .int 0]))] s.heap.size = A at hD hE ⊢
  have hA : ∀ q : Nat, s.heap.size ≤ q → A q := fun q h => by rw [← hAe]; exact Or.inr h
  have hS : va_S A s.heap s.heap [] := va_S.rf
  have hl := lv_entry ([.ref h]) (n := 1) (Nat.le_of_ble_eq_true rfl)
  rw [lg_entry_eq]
  generalize (lg_sl ([.ref h]) ++ List.replicate (1 - (lg_sl ([.ref h])).length) Slot.unset).toArray = ls at hl ⊢
  have hl : lv_has ls 1 [(0, .ref h)] := hl
  refine lv_aload_n hx hb d_SH_init_0 rfl (lv_at hl 0 rfl) ?_
  refine W.objInit hx hb hown (hts _ gw_55) (hts _ gw_20) (hts _ gw_21) rfl (by rw [hml]; exact hl.1) rfl d_SH_init_1 (Nat.le_of_ble_eq_true rfl) (Nat.le_of_ble_eq_true rfl) ?_
  refine W.eq (g2 := F0 m 4 ls []) rfl ?_
  refine lv_aload_n hx hb d_SH_init_4 rfl (lv_at hl 0 rfl) ?_
  refine lv_bipush (v := 32) hx hb d_SH_init_5 (by decide) ?_
  refine va_newa (atype := .int) (ty := .int) (a0 := (32, .inl (fun _ => 0))) hx hb (hts _ gw_32) rfl hK hP hD hS hA (fun _ => rfl) (by decide) (by decide) (by decide) (Nat.le_of_ble_eq_true rfl) (Nat.le_of_ble_eq_true rfl) d_SH_init_7 (fun q7 cA H hK9 hP hD hS => ?_)
  have e9 := bc_sameI hK9
  subst e9
  have hP : va_P (dC, dI) classes [(h, .inr (4, [.null, .null, .null, .int 0])), (q7, .inl (cI, 32, .inl (fun _ => 0)))] H := hP
  have hD : va_D A [(h, .inr (4, [.null, .null, .null, .int 0])), (q7, .inl (cI, 32, .inl (fun _ => 0)))] := hD
  refine va_putF (D := (dC, dI)) (ci := 4) (v := .ref q7) (ty := (.array .int)) (C := R_SH) (T := F_SH) (N := 4) hx hb hts in_SH t_SH t_SH_ok n_SH hown hK hP hD hS 0 rfl rfl 0 (by decide) (hts _ gw_56) (fun _ h9 => h9) rfl hin rfl (by decide +kernel) rfl rfl (Nat.le_of_ble_eq_true rfl) d_SH_init_9 (fun H locs hP hD hS => ?_)
  have hP : va_P (dC, dI) classes [(h, .inr (4, [.ref q7, .null, .null, .int 0])), (q7, .inl (cI, 32, .inl (fun _ => 0)))] H := hP
  have hD : va_D A [(h, .inr (4, [.ref q7, .null, .null, .int 0])), (q7, .inl (cI, 32, .inl (fun _ => 0)))] := hD
  refine lv_aload_n hx hb d_SH_init_12 rfl (lv_at hl 0 rfl) ?_
  refine lv_bipush (v := 64) hx hb d_SH_init_13 (by decide) ?_
  refine va_newa (atype := .int) (ty := .int) (a0 := (64, .inl (fun _ => 0))) hx hb (hts _ gw_32) rfl hK hP hD hS hA (fun _ => rfl) (by decide) (by decide) (by decide) (Nat.le_of_ble_eq_true rfl) (Nat.le_of_ble_eq_true rfl) d_SH_init_15 (fun q15 cA H hK9 hP hD hS => ?_)
  have e9 := bc_sameI hK9
  subst e9
  have hP : va_P (dC, dI) classes [(h, .inr (4, [.ref q7, .null, .null, .int 0])), (q7, .inl (cI, 32, .inl (fun _ => 0))), (q15, .inl (cI, 64, .inl (fun _ => 0)))] H := hP
  have hD : va_D A [(h, .inr (4, [.ref q7, .null, .null, .int 0])), (q7, .inl (cI, 32, .inl (fun _ => 0))), (q15, .inl (cI, 64, .inl (fun _ => 0)))] := hD
  refine va_putF (D := (dC, dI)) (ci := 4) (v := .ref q15) (ty := (.array .int)) (C := R_SH) (T := F_SH) (N := 4) hx hb hts in_SH t_SH t_SH_ok n_SH hown hK hP hD hS 0 rfl rfl 1 (by decide) (hts _ gw_57) (fun _ h9 => h9) rfl hin rfl (by decide +kernel) rfl rfl (Nat.le_of_ble_eq_true rfl) d_SH_init_17 (fun H locs hP hD hS => ?_)
  have hP : va_P (dC, dI) classes [(h, .inr (4, [.ref q7, .ref q15, .null, .int 0])), (q7, .inl (cI, 32, .inl (fun _ => 0))), (q15, .inl (cI, 64, .inl (fun _ => 0)))] H := hP
  have hD : va_D A [(h, .inr (4, [.ref q7, .ref q15, .null, .int 0])), (q7, .inl (cI, 32, .inl (fun _ => 0))), (q15, .inl (cI, 64, .inl (fun _ => 0)))] := hD
  refine lv_aload_n hx hb d_SH_init_20 rfl (lv_at hl 0 rfl) ?_
  refine lv_bipush (v := 8) hx hb d_SH_init_21 (by decide) ?_
  refine va_newa (atype := .int) (ty := .int) (a0 := (8, .inl (fun _ => 0))) hx hb (hts _ gw_32) rfl hK hP hD hS hA (fun _ => rfl) (by decide) (by decide) (by decide) (Nat.le_of_ble_eq_true rfl) (Nat.le_of_ble_eq_true rfl) d_SH_init_23 (fun q23 cA H hK9 hP hD hS => ?_)
  have e9 := bc_sameI hK9
  subst e9
  have hP : va_P (dC, dI) classes [(h, .inr (4, [.ref q7, .ref q15, .null, .int 0])), (q7, .inl (cI, 32, .inl (fun _ => 0))), (q15, .inl (cI, 64, .inl (fun _ => 0))), (q23, .inl (cI, 8, .inl (fun _ => 0)))] H := hP
  have hD : va_D A [(h, .inr (4, [.ref q7, .ref q15, .null, .int 0])), (q7, .inl (cI, 32, .inl (fun _ => 0))), (q15, .inl (cI, 64, .inl (fun _ => 0))), (q23, .inl (cI, 8, .inl (fun _ => 0)))] := hD
  refine va_putF (D := (dC, dI)) (ci := 4) (v := .ref q23) (ty := (.array .int)) (C := R_SH) (T := F_SH) (N := 4) hx hb hts in_SH t_SH t_SH_ok n_SH hown hK hP hD hS 0 rfl rfl 2 (by decide) (hts _ gw_58) (fun _ h9 => h9) rfl hin rfl (by decide +kernel) rfl rfl (Nat.le_of_ble_eq_true rfl) d_SH_init_25 (fun H locs hP hD hS => ?_)
  have hP : va_P (dC, dI) classes [(h, .inr (4, [.ref q7, .ref q15, .ref q23, .int 0])), (q7, .inl (cI, 32, .inl (fun _ => 0))), (q15, .inl (cI, 64, .inl (fun _ => 0))), (q23, .inl (cI, 8, .inl (fun _ => 0)))] H := hP
  have hD : va_D A [(h, .inr (4, [.ref q7, .ref q15, .ref q23, .int 0])), (q7, .inl (cI, 32, .inl (fun _ => 0))), (q15, .inl (cI, 64, .inl (fun _ => 0))), (q23, .inl (cI, 8, .inl (fun _ => 0)))] := hD
  exact W.vret hx hb hr (fun t ht hW => ⟨⟨(q7, q15, q23), rfl, trivial, by rw [ht]; exact hP, va_K.moved hW.alike hK, hD⟩, hS.F ht⟩) hS.2.2 d_SH_init_28
-- BC_init
theorem d_BC_init_0 : decode prog_1_method_1_code 0 = .ok (.aload_n 0, 1) := by decide +kernel
theorem d_BC_init_1 : decode prog_1_method_1_code 1 = .ok (.invokespecial 1, 3) := by decide +kernel
theorem d_BC_init_4 : decode prog_1_method_1_code 4 = .ok (.aload_n 0, 1) := by decide +kernel
theorem d_BC_init_5 : decode prog_1_method_1_code 5 = .ok (.new 7, 3) := by decide +kernel
theorem d_BC_init_8 : decode prog_1_method_1_code 8 = .ok (.dup, 1) := by decide +kernel
theorem d_BC_init_9 : decode prog_1_method_1_code 9 = .ok (.invokespecial 9, 3) := by decide +kernel
theorem d_BC_init_12 : decode prog_1_method_1_code 12 = .ok (.putfield 10, 3) := by decide +kernel
theorem d_BC_init_15 : decode prog_1_method_1_code 15 = .ok (.aload_n 0, 1) := by decide +kernel
theorem d_BC_init_16 : decode prog_1_method_1_code 16 = .ok (.new 16, 3) := by decide +kernel
theorem d_BC_init_19 : decode prog_1_method_1_code 19 = .ok (.dup, 1) := by decide +kernel
theorem d_BC_init_20 : decode prog_1_method_1_code 20 = .ok (.invokespecial 18, 3) := by decide +kernel
theorem d_BC_init_23 : decode prog_1_method_1_code 23 = .ok (.putfield 19, 3) := by decide +kernel
theorem d_BC_init_26 : decode prog_1_method_1_code 26 = .ok (.aload_n 0, 1) := by decide +kernel
theorem d_BC_init_27 : decode prog_1_method_1_code 27 = .ok (.new 23, 3) := by decide +kernel
theorem d_BC_init_30 : decode prog_1_method_1_code 30 = .ok (.dup, 1) := by decide +kernel
theorem d_BC_init_31 : decode prog_1_method_1_code 31 = .ok (.invokespecial 25, 3) := by decide +kernel
theorem d_BC_init_34 : decode prog_1_method_1_code 34 = .ok (.putfield 26, 3) := by decide +kernel
theorem d_BC_init_37 : decode prog_1_method_1_code 37 = .ok (.aload_n 0, 1) := by decide +kernel
theorem d_BC_init_38 : decode prog_1_method_1_code 38 = .ok (.new 30, 3) := by decide +kernel
theorem d_BC_init_41 : decode prog_1_method_1_code 41 = .ok (.dup, 1) := by decide +kernel
theorem d_BC_init_42 : decode prog_1_method_1_code 42 = .ok (.invokespecial 32, 3) := by decide +kernel
theorem d_BC_init_45 : decode prog_1_method_1_code 45 = .ok (.putfield 33, 3) := by decide +kernel
theorem d_BC_init_48 : decode prog_1_method_1_code 48 = .ok (.aload_n 0, 1) := by decide +kernel
theorem d_BC_init_49 : decode prog_1_method_1_code 49 = .ok (.iconst 2, 1) := by decide +kernel
theorem d_BC_init_50 : decode prog_1_method_1_code 50 = .ok (.newarray .int, 2) := by decide +kernel
theorem d_BC_init_52 : decode prog_1_method_1_code 52 = .ok (.dup, 1) := by decide +kernel
theorem d_BC_init_53 : decode prog_1_method_1_code 53 = .ok (.iconst 0, 1) := by decide +kernel
theorem d_BC_init_54 : decode prog_1_method_1_code 54 = .ok (.iconst (-1), 1) := by decide +kernel
theorem d_BC_init_55 : decode prog_1_method_1_code 55 = .ok (.iastore, 1) := by decide +kernel
theorem d_BC_init_56 : decode prog_1_method_1_code 56 = .ok (.dup, 1) := by decide +kernel
theorem d_BC_init_57 : decode prog_1_method_1_code 57 = .ok (.iconst 1, 1) := by decide +kernel
theorem d_BC_init_58 : decode prog_1_method_1_code 58 = .ok (.iconst (-1), 1) := by decide +kernel
theorem d_BC_init_59 : decode prog_1_method_1_code 59 = .ok (.iastore, 1) := by decide +kernel
theorem d_BC_init_60 : decode prog_1_method_1_code 60 = .ok (.putfield 37, 3) := by decide +kernel
theorem d_BC_init_63 : decode prog_1_method_1_code 63 = .ok (.aload_n 0, 1) := by decide +kernel
theorem d_BC_init_64 : decode prog_1_method_1_code 64 = .ok (.iconst 2, 1) := by decide +kernel
theorem d_BC_init_65 : decode prog_1_method_1_code 65 = .ok (.newarray .int, 2) := by decide +kernel
theorem d_BC_init_67 : decode prog_1_method_1_code 67 = .ok (.putfield 41, 3) := by decide +kernel
theorem d_BC_init_70 : decode prog_1_method_1_code 70 = .ok (.aload_n 0, 1) := by decide +kernel
theorem d_BC_init_71 : decode prog_1_method_1_code 71 = .ok (.bipush 16, 2) := by decide +kernel
theorem d_BC_init_73 : decode prog_1_method_1_code 73 = .ok (.newarray .int, 2) := by decide +kernel
theorem d_BC_init_75 : decode prog_1_method_1_code 75 = .ok (.putfield 44, 3) := by decide +kernel
theorem d_BC_init_78 : decode prog_1_method_1_code 78 = .ok (.aload_n 0, 1) := by decide +kernel
theorem d_BC_init_79 : decode prog_1_method_1_code 79 = .ok (.bipush 8, 2) := by decide +kernel
theorem d_BC_init_81 : decode prog_1_method_1_code 81 = .ok (.newarray .int, 2) := by decide +kernel
theorem d_BC_init_83 : decode prog_1_method_1_code 83 = .ok (.putfield 47, 3) := by decide +kernel
theorem d_BC_init_86 : decode prog_1_method_1_code 86 = .ok (.return_, 1) := by decide +kernel
def y_BC_init : MethodName := ⟨"BootChain", "<init>", "()V"⟩
def ws_BC_init : List Cond := .code y_BC_init prog_1_method_1_code 1 none :: bc_G
set_option maxHeartbeats 40000000 in
set_option maxRecDepth 100000 in
theorem c_BC_init (l : Launch) (dC : Nat → ClassId) (dI : Nat → Nat → Nat) (cI cJ : ClassId) (h : Nat) (sz : Nat) : Met l y_BC_init ws_BC_init ({ frames := 2, cells := 14, slots := 233, locals := 40 } : Room) (va_Pc [.ref h] (bc_pre (dC, dI) cI cJ [(h, .inr (0, [.null, .null, .null, .null, .null, .null, .null, .null]))] sz)) (va_Qv (fun (_ : Nat × Nat × Nat × Nat × Nat × Nat × Nat × Nat × Nat × Nat × Nat × Nat × Nat × Nat) => True) (fun u => bc_post (dC, dI) cI cJ (va_A [(h, .inr (0, [.null, .null, .null, .null, .null, .null, .null, .null]))] sz) [(h, .inr (0, [.ref (u.1), .ref (u.2.2.1), .ref (u.2.2.2.2.1), .ref (u.2.2.2.2.2.2.1), .ref (u.2.2.2.2.2.2.2.2.2.2.1), .ref (u.2.2.2.2.2.2.2.2.2.2.2.1), .ref (u.2.2.2.2.2.2.2.2.2.2.2.2.1), .ref (u.2.2.2.2.2.2.2.2.2.2.2.2.2)])), ((u.1), .inr (1, [.ref (u.2.1), .int (-1 : Int32)])), ((u.2.1), .inl (cI, 70, .inl (fun _ => 0))), ((u.2.2.1), .inr (2, [.ref (u.2.2.2.1), .int 0])), ((u.2.2.2.1), .inl (cI, 6, .inl (fun _ => 0))), ((u.2.2.2.2.1), .inr (3, [.ref (u.2.2.2.2.2.1)])), ((u.2.2.2.2.2.1), .inl (cI, 16, .inl (fun _ => 0))), ((u.2.2.2.2.2.2.1), .inr (4, [.ref (u.2.2.2.2.2.2.2.1), .ref (u.2.2.2.2.2.2.2.2.1), .ref (u.2.2.2.2.2.2.2.2.2.1), .int 0])), ((u.2.2.2.2.2.2.2.1), .inl (cI, 32, .inl (fun _ => 0))), ((u.2.2.2.2.2.2.2.2.1), .inl (cI, 64, .inl (fun _ => 0))), ((u.2.2.2.2.2.2.2.2.2.1), .inl (cI, 8, .inl (fun _ => 0))), ((u.2.2.2.2.2.2.2.2.2.2.1), .inl (cI, 2, .inl (upd (upd (fun _ => 0) ((0 : Int32)).toNatClampNeg (-1 : Int32)) ((1 : Int32)).toNatClampNeg (-1 : Int32)))), ((u.2.2.2.2.2.2.2.2.2.2.2.1), .inl (cI, 2, .inl (fun _ => 0))), ((u.2.2.2.2.2.2.2.2.2.2.2.2.1), .inl (cI, 16, .inl (fun _ => 0))), ((u.2.2.2.2.2.2.2.2.2.2.2.2.2), .inl (cI, 8, .inl (fun _ => 0)))]) (va_A [(h, .inr (0, [.null, .null, .null, .null, .null, .null, .null, .null]))] sz)) 14 233 (va_A [(h, .inr (0, [.null, .null, .null, .null, .null, .null, .null, .null]))] sz) := by
  refine Met.ofW (cc := prog_1_method_1_code) (maxL := 1) (ret := none) (by decide) rfl ?_
  intro p e s m args below meth c s₁ B hml hv
  obtain ⟨rfl, hsz, hP, hK, hD0, hE⟩ := hv
  have hx := B.exec
  have hb := B.bytes
  have hr := B.returns
  have hts : ∀ w ∈ bc_G, w.before ([.ref h] : List Value).toArray s = true := fun w h => atoms_spec (ws := ws_BC_init) B.pre w (List.mem_cons_of_mem _ h)
  have hown : s.vm.findClass "BootChain" = some m.cls := findClass_of_methodNamed B.named
  have hlocks := B.notSynchronized
  have hin : meth.name = "<init>" := (name_of_methodNamed B.named B.method).1
  subst hsz
  have hD := hD0.self (sz := s.heap.size)
  generalize hAe : va_A [(h, .inr (0, [.null, .null, .null, .null, .null, .null, .null, .null]))] s.heap.size = A at hD hE ⊢
  have hA : ∀ q : Nat, s.heap.size ≤ q → A q := fun q h => by rw [← hAe]; exact Or.inr h
  have hS : va_S A s.heap s.heap [] := va_S.rf
  have hl := lv_entry ([.ref h]) (n := 1) (Nat.le_of_ble_eq_true rfl)
  rw [lg_entry_eq]
  generalize (lg_sl ([.ref h]) ++ List.replicate (1 - (lg_sl ([.ref h])).length) Slot.unset).toArray = ls at hl ⊢
  have hl : lv_has ls 1 [(0, .ref h)] := hl
  refine lv_aload_n hx hb d_BC_init_0 rfl (lv_at hl 0 rfl) ?_
  refine W.objInit hx hb hown (hts _ gw_19) (hts _ gw_20) (hts _ gw_21) rfl (by rw [hml]; exact hl.1) rfl d_BC_init_1 (Nat.le_of_ble_eq_true rfl) (Nat.le_of_ble_eq_true rfl) ?_
  refine W.eq (g2 := F0 m 4 ls []) rfl ?_
  refine lv_aload_n hx hb d_BC_init_4 rfl (lv_at hl 0 rfl) ?_
  refine va_new (ci := 1) (fs := [.null, .int 0]) (C := R_FL) (T := F_FL) (N := 2) hx hb hts in_FL t_FL t_FL_ok hown (hts _ gw_22) (hts _ gw_23) (hts _ gw_2) hK hP hD hS hA rfl (fun j hj => by rcases j with _ | _ | j <;> first | rfl | omega) (Nat.le_of_ble_eq_true rfl) (Nat.le_of_ble_eq_true rfl) d_BC_init_5 (fun q5 H hP hD hS => ?_)
  have hP : va_P (dC, dI) classes [(h, .inr (0, [.null, .null, .null, .null, .null, .null, .null, .null])), (q5, .inr (1, [.null, .int 0]))] H := hP
  have hD : va_D A [(h, .inr (0, [.null, .null, .null, .null, .null, .null, .null, .null])), (q5, .inr (1, [.null, .int 0]))] := hD
  refine lv_dup hx hb d_BC_init_8 rfl ?_
  have hPc := hP.sub (ws' := [(q5, .inr (1, [.null, .int 0]))]) [1] rfl
  have hDc := hD.sub (ws' := [(q5, .inr (1, [.null, .int 0]))]) [1] (by decide) rfl
  have hFc := va_free (wc := [(q5, .inr (1, [.null, .int 0]))]) hD hS hA [1] rfl
  refine va_callv (va_runIN (As := []) (rest := [.ref q5, .ref h]) ⟨hx, hb, hml, hown, hts⟩ (c_FL_init l dC dI cI cJ q5 _) ⟨va_cnB 0 hts (bc_good gw_25) rfl rfl rfl (hE.1 _ nw_0) (hts _ gw_2) (by decide +kernel) ⟨(Nat.le_of_ble_eq_true rfl), (Nat.le_of_ble_eq_true rfl)⟩, rfl, (hts _ gw_24)⟩ ⟨bc_blind, fun U hU hW => ⟨rfl, bc_give hPc hDc hK hE hS hFc U hU hW⟩⟩ rfl rfl hl.1 rfl (lv_room (Nat.le_of_ble_eq_true rfl)) d_BC_init_9 ⟨(Nat.le_of_ble_eq_true rfl), (Nat.le_of_ble_eq_true rfl)⟩) hS (fun q _ h => hFc q h) hFc (fun u t H9 locs ht hvm hp hB hz1 hk1 hS => ?_)
  obtain ⟨z9_0, rfl⟩ : ∃ z, z = u := ⟨_, rfl⟩
  obtain ⟨hP, hD⟩ := va_join (wr := [(h, .inr (0, [.null, .null, .null, .null, .null, .null, .null, .null]))]) (w1 := [(q5, .inr (1, [.ref z9_0, .int (-1 : Int32)])), (z9_0, .inl (cI, 70, .inl (fun _ => 0)))]) hP hD [1] [0] rfl rfl (by decide) (by decide) hk1 hFc (ht ▸ hB.1) hB.2.2
  have hP := hP.sub (ws' := [(h, .inr (0, [.null, .null, .null, .null, .null, .null, .null, .null])), (q5, .inr (1, [.ref z9_0, .int (-1 : Int32)])), (z9_0, .inl (cI, 70, .inl (fun _ => 0)))]) [0, 1, 2] rfl
  have hD := hD.sub (ws' := [(h, .inr (0, [.null, .null, .null, .null, .null, .null, .null, .null])), (q5, .inr (1, [.ref z9_0, .int (-1 : Int32)])), (z9_0, .inl (cI, 70, .inl (fun _ => 0)))]) [0, 1, 2] (by decide) rfl
  generalize H9 = H at hP hS ⊢
  refine va_putF (D := (dC, dI)) (ci := 0) (v := .ref q5) (ty := (.object "BootChain$Flash")) (C := R_BC) (T := F_BC) (N := 8) hx hb hts in_BC t_BC t_BC_ok n_BC hown hK hP hD hS 0 rfl rfl 0 (by decide) (hts _ gw_65) (fun _ h9 => h9) rfl hin rfl (by decide +kernel) rfl rfl (Nat.le_of_ble_eq_true rfl) d_BC_init_12 (fun H locs hP hD hS => ?_)
  have hP : va_P (dC, dI) classes [(h, .inr (0, [.ref q5, .null, .null, .null, .null, .null, .null, .null])), (q5, .inr (1, [.ref z9_0, .int (-1 : Int32)])), (z9_0, .inl (cI, 70, .inl (fun _ => 0)))] H := hP
  have hD : va_D A [(h, .inr (0, [.ref q5, .null, .null, .null, .null, .null, .null, .null])), (q5, .inr (1, [.ref z9_0, .int (-1 : Int32)])), (z9_0, .inl (cI, 70, .inl (fun _ => 0)))] := hD
  refine lv_aload_n hx hb d_BC_init_15 rfl (lv_at hl 0 rfl) ?_
  refine va_new (ci := 2) (fs := [.null, .int 0]) (C := R_DR) (T := F_DR) (N := 2) hx hb hts in_DR t_DR t_DR_ok hown (hts _ gw_33) (hts _ gw_34) (hts _ gw_3) hK hP hD hS hA rfl (fun j hj => by rcases j with _ | _ | j <;> first | rfl | omega) (Nat.le_of_ble_eq_true rfl) (Nat.le_of_ble_eq_true rfl) d_BC_init_16 (fun q16 H hP hD hS => ?_)
  have hP : va_P (dC, dI) classes [(h, .inr (0, [.ref q5, .null, .null, .null, .null, .null, .null, .null])), (q5, .inr (1, [.ref z9_0, .int (-1 : Int32)])), (z9_0, .inl (cI, 70, .inl (fun _ => 0))), (q16, .inr (2, [.null, .int 0]))] H := hP
  have hD : va_D A [(h, .inr (0, [.ref q5, .null, .null, .null, .null, .null, .null, .null])), (q5, .inr (1, [.ref z9_0, .int (-1 : Int32)])), (z9_0, .inl (cI, 70, .inl (fun _ => 0))), (q16, .inr (2, [.null, .int 0]))] := hD
  refine lv_dup hx hb d_BC_init_19 rfl ?_
  have hPc := hP.sub (ws' := [(q16, .inr (2, [.null, .int 0]))]) [3] rfl
  have hDc := hD.sub (ws' := [(q16, .inr (2, [.null, .int 0]))]) [3] (by decide) rfl
  have hFc := va_free (wc := [(q16, .inr (2, [.null, .int 0]))]) hD hS hA [3] rfl
  refine va_callv (va_runIN (As := []) (rest := [.ref q16, .ref h]) ⟨hx, hb, hml, hown, hts⟩ (c_DR_init l dC dI cI cJ q16 _) ⟨va_cnB 0 hts (bc_good gw_36) rfl rfl rfl (hE.1 _ nw_1) (hts _ gw_3) (by decide +kernel) ⟨(Nat.le_of_ble_eq_true rfl), (Nat.le_of_ble_eq_true rfl)⟩, rfl, (hts _ gw_35)⟩ ⟨bc_blind, fun U hU hW => ⟨rfl, bc_give hPc hDc hK hE hS hFc U hU hW⟩⟩ rfl rfl hl.1 rfl (lv_room (Nat.le_of_ble_eq_true rfl)) d_BC_init_20 ⟨(Nat.le_of_ble_eq_true rfl), (Nat.le_of_ble_eq_true rfl)⟩) hS (fun q _ h => hFc q h) hFc (fun u t H9 locs ht hvm hp hB hz1 hk1 hS => ?_)
  obtain ⟨z20_0, rfl⟩ : ∃ z, z = u := ⟨_, rfl⟩
  obtain ⟨hP, hD⟩ := va_join (wr := [(h, .inr (0, [.ref q5, .null, .null, .null, .null, .null, .null, .null])), (q5, .inr (1, [.ref z9_0, .int (-1 : Int32)])), (z9_0, .inl (cI, 70, .inl (fun _ => 0)))]) (w1 := [(q16, .inr (2, [.ref z20_0, .int 0])), (z20_0, .inl (cI, 6, .inl (fun _ => 0)))]) hP hD [3] [0, 1, 2] rfl rfl (by decide) (by decide) hk1 hFc (ht ▸ hB.1) hB.2.2
  have hP := hP.sub (ws' := [(h, .inr (0, [.ref q5, .null, .null, .null, .null, .null, .null, .null])), (q5, .inr (1, [.ref z9_0, .int (-1 : Int32)])), (z9_0, .inl (cI, 70, .inl (fun _ => 0))), (q16, .inr (2, [.ref z20_0, .int 0])), (z20_0, .inl (cI, 6, .inl (fun _ => 0)))]) [0, 1, 2, 3, 4] rfl
  have hD := hD.sub (ws' := [(h, .inr (0, [.ref q5, .null, .null, .null, .null, .null, .null, .null])), (q5, .inr (1, [.ref z9_0, .int (-1 : Int32)])), (z9_0, .inl (cI, 70, .inl (fun _ => 0))), (q16, .inr (2, [.ref z20_0, .int 0])), (z20_0, .inl (cI, 6, .inl (fun _ => 0)))]) [0, 1, 2, 3, 4] (by decide) rfl
  generalize H9 = H at hP hS ⊢
  refine va_putF (D := (dC, dI)) (ci := 0) (v := .ref q16) (ty := (.object "BootChain$Draft")) (C := R_BC) (T := F_BC) (N := 8) hx hb hts in_BC t_BC t_BC_ok n_BC hown hK hP hD hS 0 rfl rfl 1 (by decide) (hts _ gw_66) (fun _ h9 => h9) rfl hin rfl (by decide +kernel) rfl rfl (Nat.le_of_ble_eq_true rfl) d_BC_init_23 (fun H locs hP hD hS => ?_)
  have hP : va_P (dC, dI) classes [(h, .inr (0, [.ref q5, .ref q16, .null, .null, .null, .null, .null, .null])), (q5, .inr (1, [.ref z9_0, .int (-1 : Int32)])), (z9_0, .inl (cI, 70, .inl (fun _ => 0))), (q16, .inr (2, [.ref z20_0, .int 0])), (z20_0, .inl (cI, 6, .inl (fun _ => 0)))] H := hP
  have hD : va_D A [(h, .inr (0, [.ref q5, .ref q16, .null, .null, .null, .null, .null, .null])), (q5, .inr (1, [.ref z9_0, .int (-1 : Int32)])), (z9_0, .inl (cI, 70, .inl (fun _ => 0))), (q16, .inr (2, [.ref z20_0, .int 0])), (z20_0, .inl (cI, 6, .inl (fun _ => 0)))] := hD
  refine lv_aload_n hx hb d_BC_init_26 rfl (lv_at hl 0 rfl) ?_
  refine va_new (ci := 3) (fs := [.null]) (C := R_IM) (T := F_IM) (N := 1) hx hb hts in_IM t_IM t_IM_ok hown (hts _ gw_43) (hts _ gw_44) (hts _ gw_4) hK hP hD hS hA rfl (fun j hj => by rcases j with _ | j <;> first | rfl | omega) (Nat.le_of_ble_eq_true rfl) (Nat.le_of_ble_eq_true rfl) d_BC_init_27 (fun q27 H hP hD hS => ?_)
  have hP : va_P (dC, dI) classes [(h, .inr (0, [.ref q5, .ref q16, .null, .null, .null, .null, .null, .null])), (q5, .inr (1, [.ref z9_0, .int (-1 : Int32)])), (z9_0, .inl (cI, 70, .inl (fun _ => 0))), (q16, .inr (2, [.ref z20_0, .int 0])), (z20_0, .inl (cI, 6, .inl (fun _ => 0))), (q27, .inr (3, [.null]))] H := hP
  have hD : va_D A [(h, .inr (0, [.ref q5, .ref q16, .null, .null, .null, .null, .null, .null])), (q5, .inr (1, [.ref z9_0, .int (-1 : Int32)])), (z9_0, .inl (cI, 70, .inl (fun _ => 0))), (q16, .inr (2, [.ref z20_0, .int 0])), (z20_0, .inl (cI, 6, .inl (fun _ => 0))), (q27, .inr (3, [.null]))] := hD
  refine lv_dup hx hb d_BC_init_30 rfl ?_
  have hPc := hP.sub (ws' := [(q27, .inr (3, [.null]))]) [5] rfl
  have hDc := hD.sub (ws' := [(q27, .inr (3, [.null]))]) [5] (by decide) rfl
  have hFc := va_free (wc := [(q27, .inr (3, [.null]))]) hD hS hA [5] rfl
  refine va_callv (va_runIN (As := []) (rest := [.ref q27, .ref h]) ⟨hx, hb, hml, hown, hts⟩ (c_IM_init l dC dI cI cJ q27 _) ⟨va_cnB 0 hts (bc_good gw_46) rfl rfl rfl (hE.1 _ nw_4) (hts _ gw_4) (by decide +kernel) ⟨(Nat.le_of_ble_eq_true rfl), (Nat.le_of_ble_eq_true rfl)⟩, rfl, (hts _ gw_45)⟩ ⟨bc_blind, fun U hU hW => ⟨rfl, bc_give hPc hDc hK hE hS hFc U hU hW⟩⟩ rfl rfl hl.1 rfl (lv_room (Nat.le_of_ble_eq_true rfl)) d_BC_init_31 ⟨(Nat.le_of_ble_eq_true rfl), (Nat.le_of_ble_eq_true rfl)⟩) hS (fun q _ h => hFc q h) hFc (fun u t H9 locs ht hvm hp hB hz1 hk1 hS => ?_)
  obtain ⟨z31_0, rfl⟩ : ∃ z, z = u := ⟨_, rfl⟩
  obtain ⟨hP, hD⟩ := va_join (wr := [(h, .inr (0, [.ref q5, .ref q16, .null, .null, .null, .null, .null, .null])), (q5, .inr (1, [.ref z9_0, .int (-1 : Int32)])), (z9_0, .inl (cI, 70, .inl (fun _ => 0))), (q16, .inr (2, [.ref z20_0, .int 0])), (z20_0, .inl (cI, 6, .inl (fun _ => 0)))]) (w1 := [(q27, .inr (3, [.ref z31_0])), (z31_0, .inl (cI, 16, .inl (fun _ => 0)))]) hP hD [5] [0, 1, 2, 3, 4] rfl rfl (by decide) (by decide) hk1 hFc (ht ▸ hB.1) hB.2.2
  have hP := hP.sub (ws' := [(h, .inr (0, [.ref q5, .ref q16, .null, .null, .null, .null, .null, .null])), (q5, .inr (1, [.ref z9_0, .int (-1 : Int32)])), (z9_0, .inl (cI, 70, .inl (fun _ => 0))), (q16, .inr (2, [.ref z20_0, .int 0])), (z20_0, .inl (cI, 6, .inl (fun _ => 0))), (q27, .inr (3, [.ref z31_0])), (z31_0, .inl (cI, 16, .inl (fun _ => 0)))]) [0, 1, 2, 3, 4, 5, 6] rfl
  have hD := hD.sub (ws' := [(h, .inr (0, [.ref q5, .ref q16, .null, .null, .null, .null, .null, .null])), (q5, .inr (1, [.ref z9_0, .int (-1 : Int32)])), (z9_0, .inl (cI, 70, .inl (fun _ => 0))), (q16, .inr (2, [.ref z20_0, .int 0])), (z20_0, .inl (cI, 6, .inl (fun _ => 0))), (q27, .inr (3, [.ref z31_0])), (z31_0, .inl (cI, 16, .inl (fun _ => 0)))]) [0, 1, 2, 3, 4, 5, 6] (by decide) rfl
  generalize H9 = H at hP hS ⊢
  refine va_putF (D := (dC, dI)) (ci := 0) (v := .ref q27) (ty := (.object "BootChain$Image")) (C := R_BC) (T := F_BC) (N := 8) hx hb hts in_BC t_BC t_BC_ok n_BC hown hK hP hD hS 0 rfl rfl 2 (by decide) (hts _ gw_67) (fun _ h9 => h9) rfl hin rfl (by decide +kernel) rfl rfl (Nat.le_of_ble_eq_true rfl) d_BC_init_34 (fun H locs hP hD hS => ?_)
  have hP : va_P (dC, dI) classes [(h, .inr (0, [.ref q5, .ref q16, .ref q27, .null, .null, .null, .null, .null])), (q5, .inr (1, [.ref z9_0, .int (-1 : Int32)])), (z9_0, .inl (cI, 70, .inl (fun _ => 0))), (q16, .inr (2, [.ref z20_0, .int 0])), (z20_0, .inl (cI, 6, .inl (fun _ => 0))), (q27, .inr (3, [.ref z31_0])), (z31_0, .inl (cI, 16, .inl (fun _ => 0)))] H := hP
  have hD : va_D A [(h, .inr (0, [.ref q5, .ref q16, .ref q27, .null, .null, .null, .null, .null])), (q5, .inr (1, [.ref z9_0, .int (-1 : Int32)])), (z9_0, .inl (cI, 70, .inl (fun _ => 0))), (q16, .inr (2, [.ref z20_0, .int 0])), (z20_0, .inl (cI, 6, .inl (fun _ => 0))), (q27, .inr (3, [.ref z31_0])), (z31_0, .inl (cI, 16, .inl (fun _ => 0)))] := hD
  refine lv_aload_n hx hb d_BC_init_37 rfl (lv_at hl 0 rfl) ?_
  refine va_new (ci := 4) (fs := [.null, .null, .null, .int 0]) (C := R_SH) (T := F_SH) (N := 4) hx hb hts in_SH t_SH t_SH_ok hown (hts _ gw_51) (hts _ gw_52) (hts _ gw_5) hK hP hD hS hA rfl (fun j hj => by rcases j with _ | _ | _ | _ | j <;> first | rfl | omega) (Nat.le_of_ble_eq_true rfl) (Nat.le_of_ble_eq_true rfl) d_BC_init_38 (fun q38 H hP hD hS => ?_)
  have hP : va_P (dC, dI) classes [(h, .inr (0, [.ref q5, .ref q16, .ref q27, .null, .null, .null, .null, .null])), (q5, .inr (1, [.ref z9_0, .int (-1 : Int32)])), (z9_0, .inl (cI, 70, .inl (fun _ => 0))), (q16, .inr (2, [.ref z20_0, .int 0])), (z20_0, .inl (cI, 6, .inl (fun _ => 0))), (q27, .inr (3, [.ref z31_0])), (z31_0, .inl (cI, 16, .inl (fun _ => 0))), (q38, .inr (4, [.null, .null, .null, .int 0]))] H := hP
  have hD : va_D A [(h, .inr (0, [.ref q5, .ref q16, .ref q27, .null, .null, .null, .null, .null])), (q5, .inr (1, [.ref z9_0, .int (-1 : Int32)])), (z9_0, .inl (cI, 70, .inl (fun _ => 0))), (q16, .inr (2, [.ref z20_0, .int 0])), (z20_0, .inl (cI, 6, .inl (fun _ => 0))), (q27, .inr (3, [.ref z31_0])), (z31_0, .inl (cI, 16, .inl (fun _ => 0))), (q38, .inr (4, [.null, .null, .null, .int 0]))] := hD
  refine lv_dup hx hb d_BC_init_41 rfl ?_
  have hPc := hP.sub (ws' := [(q38, .inr (4, [.null, .null, .null, .int 0]))]) [7] rfl
  have hDc := hD.sub (ws' := [(q38, .inr (4, [.null, .null, .null, .int 0]))]) [7] (by decide) rfl
  have hFc := va_free (wc := [(q38, .inr (4, [.null, .null, .null, .int 0]))]) hD hS hA [7] rfl
  refine va_callv (va_runIN (As := []) (rest := [.ref q38, .ref h]) ⟨hx, hb, hml, hown, hts⟩ (c_SH_init l dC dI cI cJ q38 _) ⟨va_cnB 0 hts (bc_good gw_54) rfl rfl rfl (hE.1 _ nw_5) (hts _ gw_5) (by decide +kernel) ⟨(Nat.le_of_ble_eq_true rfl), (Nat.le_of_ble_eq_true rfl)⟩, rfl, (hts _ gw_53)⟩ ⟨bc_blind, fun U hU hW => ⟨rfl, bc_give hPc hDc hK hE hS hFc U hU hW⟩⟩ rfl rfl hl.1 rfl (lv_room (Nat.le_of_ble_eq_true rfl)) d_BC_init_42 ⟨(Nat.le_of_ble_eq_true rfl), (Nat.le_of_ble_eq_true rfl)⟩) hS (fun q _ h => hFc q h) hFc (fun u t H9 locs ht hvm hp hB hz1 hk1 hS => ?_)
  obtain ⟨z42_0, z42_1, z42_2⟩ := u
  obtain ⟨hP, hD⟩ := va_join (wr := [(h, .inr (0, [.ref q5, .ref q16, .ref q27, .null, .null, .null, .null, .null])), (q5, .inr (1, [.ref z9_0, .int (-1 : Int32)])), (z9_0, .inl (cI, 70, .inl (fun _ => 0))), (q16, .inr (2, [.ref z20_0, .int 0])), (z20_0, .inl (cI, 6, .inl (fun _ => 0))), (q27, .inr (3, [.ref z31_0])), (z31_0, .inl (cI, 16, .inl (fun _ => 0)))]) (w1 := [(q38, .inr (4, [.ref z42_0, .ref z42_1, .ref z42_2, .int 0])), (z42_0, .inl (cI, 32, .inl (fun _ => 0))), (z42_1, .inl (cI, 64, .inl (fun _ => 0))), (z42_2, .inl (cI, 8, .inl (fun _ => 0)))]) hP hD [7] [0, 1, 2, 3, 4, 5, 6] rfl rfl (by decide) (by decide) hk1 hFc (ht ▸ hB.1) hB.2.2
  have hP := hP.sub (ws' := [(h, .inr (0, [.ref q5, .ref q16, .ref q27, .null, .null, .null, .null, .null])), (q5, .inr (1, [.ref z9_0, .int (-1 : Int32)])), (z9_0, .inl (cI, 70, .inl (fun _ => 0))), (q16, .inr (2, [.ref z20_0, .int 0])), (z20_0, .inl (cI, 6, .inl (fun _ => 0))), (q27, .inr (3, [.ref z31_0])), (z31_0, .inl (cI, 16, .inl (fun _ => 0))), (q38, .inr (4, [.ref z42_0, .ref z42_1, .ref z42_2, .int 0])), (z42_0, .inl (cI, 32, .inl (fun _ => 0))), (z42_1, .inl (cI, 64, .inl (fun _ => 0))), (z42_2, .inl (cI, 8, .inl (fun _ => 0)))]) [0, 1, 2, 3, 4, 5, 6, 7, 8, 9, 10] rfl
  have hD := hD.sub (ws' := [(h, .inr (0, [.ref q5, .ref q16, .ref q27, .null, .null, .null, .null, .null])), (q5, .inr (1, [.ref z9_0, .int (-1 : Int32)])), (z9_0, .inl (cI, 70, .inl (fun _ => 0))), (q16, .inr (2, [.ref z20_0, .int 0])), (z20_0, .inl (cI, 6, .inl (fun _ => 0))), (q27, .inr (3, [.ref z31_0])), (z31_0, .inl (cI, 16, .inl (fun _ => 0))), (q38, .inr (4, [.ref z42_0, .ref z42_1, .ref z42_2, .int 0])), (z42_0, .inl (cI, 32, .inl (fun _ => 0))), (z42_1, .inl (cI, 64, .inl (fun _ => 0))), (z42_2, .inl (cI, 8, .inl (fun _ => 0)))]) [0, 1, 2, 3, 4, 5, 6, 7, 8, 9, 10] (by decide) rfl
  generalize H9 = H at hP hS ⊢
  refine va_putF (D := (dC, dI)) (ci := 0) (v := .ref q38) (ty := (.object "BootChain$Sha256")) (C := R_BC) (T := F_BC) (N := 8) hx hb hts in_BC t_BC t_BC_ok n_BC hown hK hP hD hS 0 rfl rfl 3 (by decide) (hts _ gw_68) (fun _ h9 => h9) rfl hin rfl (by decide +kernel) rfl rfl (Nat.le_of_ble_eq_true rfl) d_BC_init_45 (fun H locs hP hD hS => ?_)
  have hP : va_P (dC, dI) classes [(h, .inr (0, [.ref q5, .ref q16, .ref q27, .ref q38, .null, .null, .null, .null])), (q5, .inr (1, [.ref z9_0, .int (-1 : Int32)])), (z9_0, .inl (cI, 70, .inl (fun _ => 0))), (q16, .inr (2, [.ref z20_0, .int 0])), (z20_0, .inl (cI, 6, .inl (fun _ => 0))), (q27, .inr (3, [.ref z31_0])), (z31_0, .inl (cI, 16, .inl (fun _ => 0))), (q38, .inr (4, [.ref z42_0, .ref z42_1, .ref z42_2, .int 0])), (z42_0, .inl (cI, 32, .inl (fun _ => 0))), (z42_1, .inl (cI, 64, .inl (fun _ => 0))), (z42_2, .inl (cI, 8, .inl (fun _ => 0)))] H := hP
  have hD : va_D A [(h, .inr (0, [.ref q5, .ref q16, .ref q27, .ref q38, .null, .null, .null, .null])), (q5, .inr (1, [.ref z9_0, .int (-1 : Int32)])), (z9_0, .inl (cI, 70, .inl (fun _ => 0))), (q16, .inr (2, [.ref z20_0, .int 0])), (z20_0, .inl (cI, 6, .inl (fun _ => 0))), (q27, .inr (3, [.ref z31_0])), (z31_0, .inl (cI, 16, .inl (fun _ => 0))), (q38, .inr (4, [.ref z42_0, .ref z42_1, .ref z42_2, .int 0])), (z42_0, .inl (cI, 32, .inl (fun _ => 0))), (z42_1, .inl (cI, 64, .inl (fun _ => 0))), (z42_2, .inl (cI, 8, .inl (fun _ => 0)))] := hD
  refine lv_aload_n hx hb d_BC_init_48 rfl (lv_at hl 0 rfl) ?_
  refine lv_iconst (v := 2) hx hb d_BC_init_49 (by decide) ?_
  refine va_newa (atype := .int) (ty := .int) (a0 := (2, .inl (fun _ => 0))) hx hb (hts _ gw_32) rfl hK hP hD hS hA (fun _ => rfl) (by decide) (by decide) (by decide) (Nat.le_of_ble_eq_true rfl) (Nat.le_of_ble_eq_true rfl) d_BC_init_50 (fun q50 cA H hK9 hP hD hS => ?_)
  have e9 := bc_sameI hK9
  subst e9
  have hP : va_P (dC, dI) classes [(h, .inr (0, [.ref q5, .ref q16, .ref q27, .ref q38, .null, .null, .null, .null])), (q5, .inr (1, [.ref z9_0, .int (-1 : Int32)])), (z9_0, .inl (cI, 70, .inl (fun _ => 0))), (q16, .inr (2, [.ref z20_0, .int 0])), (z20_0, .inl (cI, 6, .inl (fun _ => 0))), (q27, .inr (3, [.ref z31_0])), (z31_0, .inl (cI, 16, .inl (fun _ => 0))), (q38, .inr (4, [.ref z42_0, .ref z42_1, .ref z42_2, .int 0])), (z42_0, .inl (cI, 32, .inl (fun _ => 0))), (z42_1, .inl (cI, 64, .inl (fun _ => 0))), (z42_2, .inl (cI, 8, .inl (fun _ => 0))), (q50, .inl (cI, 2, .inl (fun _ => 0)))] H := hP
  have hD : va_D A [(h, .inr (0, [.ref q5, .ref q16, .ref q27, .ref q38, .null, .null, .null, .null])), (q5, .inr (1, [.ref z9_0, .int (-1 : Int32)])), (z9_0, .inl (cI, 70, .inl (fun _ => 0))), (q16, .inr (2, [.ref z20_0, .int 0])), (z20_0, .inl (cI, 6, .inl (fun _ => 0))), (q27, .inr (3, [.ref z31_0])), (z31_0, .inl (cI, 16, .inl (fun _ => 0))), (q38, .inr (4, [.ref z42_0, .ref z42_1, .ref z42_2, .int 0])), (z42_0, .inl (cI, 32, .inl (fun _ => 0))), (z42_1, .inl (cI, 64, .inl (fun _ => 0))), (z42_2, .inl (cI, 8, .inl (fun _ => 0))), (q50, .inl (cI, 2, .inl (fun _ => 0)))] := hD
  refine lv_dup hx hb d_BC_init_52 rfl ?_
  refine lv_iconst (v := 0) hx hb d_BC_init_53 (by decide) ?_
  refine lv_iconst (v := (-1)) hx hb d_BC_init_54 (by decide) ?_
  refine va_iast hx hb hK hP hD hS 11 0 rfl rfl (by unfold vp_in; decide +kernel) d_BC_init_55 (fun H locs hP hD hS => ?_)
  have hP : va_P (dC, dI) classes [(h, .inr (0, [.ref q5, .ref q16, .ref q27, .ref q38, .null, .null, .null, .null])), (q5, .inr (1, [.ref z9_0, .int (-1 : Int32)])), (z9_0, .inl (cI, 70, .inl (fun _ => 0))), (q16, .inr (2, [.ref z20_0, .int 0])), (z20_0, .inl (cI, 6, .inl (fun _ => 0))), (q27, .inr (3, [.ref z31_0])), (z31_0, .inl (cI, 16, .inl (fun _ => 0))), (q38, .inr (4, [.ref z42_0, .ref z42_1, .ref z42_2, .int 0])), (z42_0, .inl (cI, 32, .inl (fun _ => 0))), (z42_1, .inl (cI, 64, .inl (fun _ => 0))), (z42_2, .inl (cI, 8, .inl (fun _ => 0))), (q50, .inl (cI, 2, .inl (upd (fun _ => 0) ((0 : Int32)).toNatClampNeg (-1 : Int32))))] H := hP
  have hD : va_D A [(h, .inr (0, [.ref q5, .ref q16, .ref q27, .ref q38, .null, .null, .null, .null])), (q5, .inr (1, [.ref z9_0, .int (-1 : Int32)])), (z9_0, .inl (cI, 70, .inl (fun _ => 0))), (q16, .inr (2, [.ref z20_0, .int 0])), (z20_0, .inl (cI, 6, .inl (fun _ => 0))), (q27, .inr (3, [.ref z31_0])), (z31_0, .inl (cI, 16, .inl (fun _ => 0))), (q38, .inr (4, [.ref z42_0, .ref z42_1, .ref z42_2, .int 0])), (z42_0, .inl (cI, 32, .inl (fun _ => 0))), (z42_1, .inl (cI, 64, .inl (fun _ => 0))), (z42_2, .inl (cI, 8, .inl (fun _ => 0))), (q50, .inl (cI, 2, .inl (upd (fun _ => 0) ((0 : Int32)).toNatClampNeg (-1 : Int32))))] := hD
  refine lv_dup hx hb d_BC_init_56 rfl ?_
  refine lv_iconst (v := 1) hx hb d_BC_init_57 (by decide) ?_
  refine lv_iconst (v := (-1)) hx hb d_BC_init_58 (by decide) ?_
  refine va_iast hx hb hK hP hD hS 11 0 rfl rfl (by unfold vp_in; decide +kernel) d_BC_init_59 (fun H locs hP hD hS => ?_)
  have hP : va_P (dC, dI) classes [(h, .inr (0, [.ref q5, .ref q16, .ref q27, .ref q38, .null, .null, .null, .null])), (q5, .inr (1, [.ref z9_0, .int (-1 : Int32)])), (z9_0, .inl (cI, 70, .inl (fun _ => 0))), (q16, .inr (2, [.ref z20_0, .int 0])), (z20_0, .inl (cI, 6, .inl (fun _ => 0))), (q27, .inr (3, [.ref z31_0])), (z31_0, .inl (cI, 16, .inl (fun _ => 0))), (q38, .inr (4, [.ref z42_0, .ref z42_1, .ref z42_2, .int 0])), (z42_0, .inl (cI, 32, .inl (fun _ => 0))), (z42_1, .inl (cI, 64, .inl (fun _ => 0))), (z42_2, .inl (cI, 8, .inl (fun _ => 0))), (q50, .inl (cI, 2, .inl (upd (upd (fun _ => 0) ((0 : Int32)).toNatClampNeg (-1 : Int32)) ((1 : Int32)).toNatClampNeg (-1 : Int32))))] H := hP
  have hD : va_D A [(h, .inr (0, [.ref q5, .ref q16, .ref q27, .ref q38, .null, .null, .null, .null])), (q5, .inr (1, [.ref z9_0, .int (-1 : Int32)])), (z9_0, .inl (cI, 70, .inl (fun _ => 0))), (q16, .inr (2, [.ref z20_0, .int 0])), (z20_0, .inl (cI, 6, .inl (fun _ => 0))), (q27, .inr (3, [.ref z31_0])), (z31_0, .inl (cI, 16, .inl (fun _ => 0))), (q38, .inr (4, [.ref z42_0, .ref z42_1, .ref z42_2, .int 0])), (z42_0, .inl (cI, 32, .inl (fun _ => 0))), (z42_1, .inl (cI, 64, .inl (fun _ => 0))), (z42_2, .inl (cI, 8, .inl (fun _ => 0))), (q50, .inl (cI, 2, .inl (upd (upd (fun _ => 0) ((0 : Int32)).toNatClampNeg (-1 : Int32)) ((1 : Int32)).toNatClampNeg (-1 : Int32))))] := hD
  refine va_putF (D := (dC, dI)) (ci := 0) (v := .ref q50) (ty := (.array .int)) (C := R_BC) (T := F_BC) (N := 8) hx hb hts in_BC t_BC t_BC_ok n_BC hown hK hP hD hS 0 rfl rfl 4 (by decide) (hts _ gw_69) (fun _ h9 => h9) rfl hin rfl (by decide +kernel) rfl rfl (Nat.le_of_ble_eq_true rfl) d_BC_init_60 (fun H locs hP hD hS => ?_)
  have hP : va_P (dC, dI) classes [(h, .inr (0, [.ref q5, .ref q16, .ref q27, .ref q38, .ref q50, .null, .null, .null])), (q5, .inr (1, [.ref z9_0, .int (-1 : Int32)])), (z9_0, .inl (cI, 70, .inl (fun _ => 0))), (q16, .inr (2, [.ref z20_0, .int 0])), (z20_0, .inl (cI, 6, .inl (fun _ => 0))), (q27, .inr (3, [.ref z31_0])), (z31_0, .inl (cI, 16, .inl (fun _ => 0))), (q38, .inr (4, [.ref z42_0, .ref z42_1, .ref z42_2, .int 0])), (z42_0, .inl (cI, 32, .inl (fun _ => 0))), (z42_1, .inl (cI, 64, .inl (fun _ => 0))), (z42_2, .inl (cI, 8, .inl (fun _ => 0))), (q50, .inl (cI, 2, .inl (upd (upd (fun _ => 0) ((0 : Int32)).toNatClampNeg (-1 : Int32)) ((1 : Int32)).toNatClampNeg (-1 : Int32))))] H := hP
  have hD : va_D A [(h, .inr (0, [.ref q5, .ref q16, .ref q27, .ref q38, .ref q50, .null, .null, .null])), (q5, .inr (1, [.ref z9_0, .int (-1 : Int32)])), (z9_0, .inl (cI, 70, .inl (fun _ => 0))), (q16, .inr (2, [.ref z20_0, .int 0])), (z20_0, .inl (cI, 6, .inl (fun _ => 0))), (q27, .inr (3, [.ref z31_0])), (z31_0, .inl (cI, 16, .inl (fun _ => 0))), (q38, .inr (4, [.ref z42_0, .ref z42_1, .ref z42_2, .int 0])), (z42_0, .inl (cI, 32, .inl (fun _ => 0))), (z42_1, .inl (cI, 64, .inl (fun _ => 0))), (z42_2, .inl (cI, 8, .inl (fun _ => 0))), (q50, .inl (cI, 2, .inl (upd (upd (fun _ => 0) ((0 : Int32)).toNatClampNeg (-1 : Int32)) ((1 : Int32)).toNatClampNeg (-1 : Int32))))] := hD
  refine lv_aload_n hx hb d_BC_init_63 rfl (lv_at hl 0 rfl) ?_
  refine lv_iconst (v := 2) hx hb d_BC_init_64 (by decide) ?_
  refine va_newa (atype := .int) (ty := .int) (a0 := (2, .inl (fun _ => 0))) hx hb (hts _ gw_32) rfl hK hP hD hS hA (fun _ => rfl) (by decide) (by decide) (by decide) (Nat.le_of_ble_eq_true rfl) (Nat.le_of_ble_eq_true rfl) d_BC_init_65 (fun q65 cA H hK9 hP hD hS => ?_)
  have e9 := bc_sameI hK9
  subst e9
  have hP : va_P (dC, dI) classes [(h, .inr (0, [.ref q5, .ref q16, .ref q27, .ref q38, .ref q50, .null, .null, .null])), (q5, .inr (1, [.ref z9_0, .int (-1 : Int32)])), (z9_0, .inl (cI, 70, .inl (fun _ => 0))), (q16, .inr (2, [.ref z20_0, .int 0])), (z20_0, .inl (cI, 6, .inl (fun _ => 0))), (q27, .inr (3, [.ref z31_0])), (z31_0, .inl (cI, 16, .inl (fun _ => 0))), (q38, .inr (4, [.ref z42_0, .ref z42_1, .ref z42_2, .int 0])), (z42_0, .inl (cI, 32, .inl (fun _ => 0))), (z42_1, .inl (cI, 64, .inl (fun _ => 0))), (z42_2, .inl (cI, 8, .inl (fun _ => 0))), (q50, .inl (cI, 2, .inl (upd (upd (fun _ => 0) ((0 : Int32)).toNatClampNeg (-1 : Int32)) ((1 : Int32)).toNatClampNeg (-1 : Int32)))), (q65, .inl (cI, 2, .inl (fun _ => 0)))] H := hP
  have hD : va_D A [(h, .inr (0, [.ref q5, .ref q16, .ref q27, .ref q38, .ref q50, .null, .null, .null])), (q5, .inr (1, [.ref z9_0, .int (-1 : Int32)])), (z9_0, .inl (cI, 70, .inl (fun _ => 0))), (q16, .inr (2, [.ref z20_0, .int 0])), (z20_0, .inl (cI, 6, .inl (fun _ => 0))), (q27, .inr (3, [.ref z31_0])), (z31_0, .inl (cI, 16, .inl (fun _ => 0))), (q38, .inr (4, [.ref z42_0, .ref z42_1, .ref z42_2, .int 0])), (z42_0, .inl (cI, 32, .inl (fun _ => 0))), (z42_1, .inl (cI, 64, .inl (fun _ => 0))), (z42_2, .inl (cI, 8, .inl (fun _ => 0))), (q50, .inl (cI, 2, .inl (upd (upd (fun _ => 0) ((0 : Int32)).toNatClampNeg (-1 : Int32)) ((1 : Int32)).toNatClampNeg (-1 : Int32)))), (q65, .inl (cI, 2, .inl (fun _ => 0)))] := hD
  refine va_putF (D := (dC, dI)) (ci := 0) (v := .ref q65) (ty := (.array .int)) (C := R_BC) (T := F_BC) (N := 8) hx hb hts in_BC t_BC t_BC_ok n_BC hown hK hP hD hS 0 rfl rfl 5 (by decide) (hts _ gw_70) (fun _ h9 => h9) rfl hin rfl (by decide +kernel) rfl rfl (Nat.le_of_ble_eq_true rfl) d_BC_init_67 (fun H locs hP hD hS => ?_)
  have hP : va_P (dC, dI) classes [(h, .inr (0, [.ref q5, .ref q16, .ref q27, .ref q38, .ref q50, .ref q65, .null, .null])), (q5, .inr (1, [.ref z9_0, .int (-1 : Int32)])), (z9_0, .inl (cI, 70, .inl (fun _ => 0))), (q16, .inr (2, [.ref z20_0, .int 0])), (z20_0, .inl (cI, 6, .inl (fun _ => 0))), (q27, .inr (3, [.ref z31_0])), (z31_0, .inl (cI, 16, .inl (fun _ => 0))), (q38, .inr (4, [.ref z42_0, .ref z42_1, .ref z42_2, .int 0])), (z42_0, .inl (cI, 32, .inl (fun _ => 0))), (z42_1, .inl (cI, 64, .inl (fun _ => 0))), (z42_2, .inl (cI, 8, .inl (fun _ => 0))), (q50, .inl (cI, 2, .inl (upd (upd (fun _ => 0) ((0 : Int32)).toNatClampNeg (-1 : Int32)) ((1 : Int32)).toNatClampNeg (-1 : Int32)))), (q65, .inl (cI, 2, .inl (fun _ => 0)))] H := hP
  have hD : va_D A [(h, .inr (0, [.ref q5, .ref q16, .ref q27, .ref q38, .ref q50, .ref q65, .null, .null])), (q5, .inr (1, [.ref z9_0, .int (-1 : Int32)])), (z9_0, .inl (cI, 70, .inl (fun _ => 0))), (q16, .inr (2, [.ref z20_0, .int 0])), (z20_0, .inl (cI, 6, .inl (fun _ => 0))), (q27, .inr (3, [.ref z31_0])), (z31_0, .inl (cI, 16, .inl (fun _ => 0))), (q38, .inr (4, [.ref z42_0, .ref z42_1, .ref z42_2, .int 0])), (z42_0, .inl (cI, 32, .inl (fun _ => 0))), (z42_1, .inl (cI, 64, .inl (fun _ => 0))), (z42_2, .inl (cI, 8, .inl (fun _ => 0))), (q50, .inl (cI, 2, .inl (upd (upd (fun _ => 0) ((0 : Int32)).toNatClampNeg (-1 : Int32)) ((1 : Int32)).toNatClampNeg (-1 : Int32)))), (q65, .inl (cI, 2, .inl (fun _ => 0)))] := hD
  refine lv_aload_n hx hb d_BC_init_70 rfl (lv_at hl 0 rfl) ?_
  refine lv_bipush (v := 16) hx hb d_BC_init_71 (by decide) ?_
  refine va_newa (atype := .int) (ty := .int) (a0 := (16, .inl (fun _ => 0))) hx hb (hts _ gw_32) rfl hK hP hD hS hA (fun _ => rfl) (by decide) (by decide) (by decide) (Nat.le_of_ble_eq_true rfl) (Nat.le_of_ble_eq_true rfl) d_BC_init_73 (fun q73 cA H hK9 hP hD hS => ?_)
  have e9 := bc_sameI hK9
  subst e9
  have hP : va_P (dC, dI) classes [(h, .inr (0, [.ref q5, .ref q16, .ref q27, .ref q38, .ref q50, .ref q65, .null, .null])), (q5, .inr (1, [.ref z9_0, .int (-1 : Int32)])), (z9_0, .inl (cI, 70, .inl (fun _ => 0))), (q16, .inr (2, [.ref z20_0, .int 0])), (z20_0, .inl (cI, 6, .inl (fun _ => 0))), (q27, .inr (3, [.ref z31_0])), (z31_0, .inl (cI, 16, .inl (fun _ => 0))), (q38, .inr (4, [.ref z42_0, .ref z42_1, .ref z42_2, .int 0])), (z42_0, .inl (cI, 32, .inl (fun _ => 0))), (z42_1, .inl (cI, 64, .inl (fun _ => 0))), (z42_2, .inl (cI, 8, .inl (fun _ => 0))), (q50, .inl (cI, 2, .inl (upd (upd (fun _ => 0) ((0 : Int32)).toNatClampNeg (-1 : Int32)) ((1 : Int32)).toNatClampNeg (-1 : Int32)))), (q65, .inl (cI, 2, .inl (fun _ => 0))), (q73, .inl (cI, 16, .inl (fun _ => 0)))] H := hP
  have hD : va_D A [(h, .inr (0, [.ref q5, .ref q16, .ref q27, .ref q38, .ref q50, .ref q65, .null, .null])), (q5, .inr (1, [.ref z9_0, .int (-1 : Int32)])), (z9_0, .inl (cI, 70, .inl (fun _ => 0))), (q16, .inr (2, [.ref z20_0, .int 0])), (z20_0, .inl (cI, 6, .inl (fun _ => 0))), (q27, .inr (3, [.ref z31_0])), (z31_0, .inl (cI, 16, .inl (fun _ => 0))), (q38, .inr (4, [.ref z42_0, .ref z42_1, .ref z42_2, .int 0])), (z42_0, .inl (cI, 32, .inl (fun _ => 0))), (z42_1, .inl (cI, 64, .inl (fun _ => 0))), (z42_2, .inl (cI, 8, .inl (fun _ => 0))), (q50, .inl (cI, 2, .inl (upd (upd (fun _ => 0) ((0 : Int32)).toNatClampNeg (-1 : Int32)) ((1 : Int32)).toNatClampNeg (-1 : Int32)))), (q65, .inl (cI, 2, .inl (fun _ => 0))), (q73, .inl (cI, 16, .inl (fun _ => 0)))] := hD
  refine va_putF (D := (dC, dI)) (ci := 0) (v := .ref q73) (ty := (.array .int)) (C := R_BC) (T := F_BC) (N := 8) hx hb hts in_BC t_BC t_BC_ok n_BC hown hK hP hD hS 0 rfl rfl 6 (by decide) (hts _ gw_71) (fun _ h9 => h9) rfl hin rfl (by decide +kernel) rfl rfl (Nat.le_of_ble_eq_true rfl) d_BC_init_75 (fun H locs hP hD hS => ?_)
  have hP : va_P (dC, dI) classes [(h, .inr (0, [.ref q5, .ref q16, .ref q27, .ref q38, .ref q50, .ref q65, .ref q73, .null])), (q5, .inr (1, [.ref z9_0, .int (-1 : Int32)])), (z9_0, .inl (cI, 70, .inl (fun _ => 0))), (q16, .inr (2, [.ref z20_0, .int 0])), (z20_0, .inl (cI, 6, .inl (fun _ => 0))), (q27, .inr (3, [.ref z31_0])), (z31_0, .inl (cI, 16, .inl (fun _ => 0))), (q38, .inr (4, [.ref z42_0, .ref z42_1, .ref z42_2, .int 0])), (z42_0, .inl (cI, 32, .inl (fun _ => 0))), (z42_1, .inl (cI, 64, .inl (fun _ => 0))), (z42_2, .inl (cI, 8, .inl (fun _ => 0))), (q50, .inl (cI, 2, .inl (upd (upd (fun _ => 0) ((0 : Int32)).toNatClampNeg (-1 : Int32)) ((1 : Int32)).toNatClampNeg (-1 : Int32)))), (q65, .inl (cI, 2, .inl (fun _ => 0))), (q73, .inl (cI, 16, .inl (fun _ => 0)))] H := hP
  have hD : va_D A [(h, .inr (0, [.ref q5, .ref q16, .ref q27, .ref q38, .ref q50, .ref q65, .ref q73, .null])), (q5, .inr (1, [.ref z9_0, .int (-1 : Int32)])), (z9_0, .inl (cI, 70, .inl (fun _ => 0))), (q16, .inr (2, [.ref z20_0, .int 0])), (z20_0, .inl (cI, 6, .inl (fun _ => 0))), (q27, .inr (3, [.ref z31_0])), (z31_0, .inl (cI, 16, .inl (fun _ => 0))), (q38, .inr (4, [.ref z42_0, .ref z42_1, .ref z42_2, .int 0])), (z42_0, .inl (cI, 32, .inl (fun _ => 0))), (z42_1, .inl (cI, 64, .inl (fun _ => 0))), (z42_2, .inl (cI, 8, .inl (fun _ => 0))), (q50, .inl (cI, 2, .inl (upd (upd (fun _ => 0) ((0 : Int32)).toNatClampNeg (-1 : Int32)) ((1 : Int32)).toNatClampNeg (-1 : Int32)))), (q65, .inl (cI, 2, .inl (fun _ => 0))), (q73, .inl (cI, 16, .inl (fun _ => 0)))] := hD
  refine lv_aload_n hx hb d_BC_init_78 rfl (lv_at hl 0 rfl) ?_
  refine lv_bipush (v := 8) hx hb d_BC_init_79 (by decide) ?_
  refine va_newa (atype := .int) (ty := .int) (a0 := (8, .inl (fun _ => 0))) hx hb (hts _ gw_32) rfl hK hP hD hS hA (fun _ => rfl) (by decide) (by decide) (by decide) (Nat.le_of_ble_eq_true rfl) (Nat.le_of_ble_eq_true rfl) d_BC_init_81 (fun q81 cA H hK9 hP hD hS => ?_)
  have e9 := bc_sameI hK9
  subst e9
  have hP : va_P (dC, dI) classes [(h, .inr (0, [.ref q5, .ref q16, .ref q27, .ref q38, .ref q50, .ref q65, .ref q73, .null])), (q5, .inr (1, [.ref z9_0, .int (-1 : Int32)])), (z9_0, .inl (cI, 70, .inl (fun _ => 0))), (q16, .inr (2, [.ref z20_0, .int 0])), (z20_0, .inl (cI, 6, .inl (fun _ => 0))), (q27, .inr (3, [.ref z31_0])), (z31_0, .inl (cI, 16, .inl (fun _ => 0))), (q38, .inr (4, [.ref z42_0, .ref z42_1, .ref z42_2, .int 0])), (z42_0, .inl (cI, 32, .inl (fun _ => 0))), (z42_1, .inl (cI, 64, .inl (fun _ => 0))), (z42_2, .inl (cI, 8, .inl (fun _ => 0))), (q50, .inl (cI, 2, .inl (upd (upd (fun _ => 0) ((0 : Int32)).toNatClampNeg (-1 : Int32)) ((1 : Int32)).toNatClampNeg (-1 : Int32)))), (q65, .inl (cI, 2, .inl (fun _ => 0))), (q73, .inl (cI, 16, .inl (fun _ => 0))), (q81, .inl (cI, 8, .inl (fun _ => 0)))] H := hP
  have hD : va_D A [(h, .inr (0, [.ref q5, .ref q16, .ref q27, .ref q38, .ref q50, .ref q65, .ref q73, .null])), (q5, .inr (1, [.ref z9_0, .int (-1 : Int32)])), (z9_0, .inl (cI, 70, .inl (fun _ => 0))), (q16, .inr (2, [.ref z20_0, .int 0])), (z20_0, .inl (cI, 6, .inl (fun _ => 0))), (q27, .inr (3, [.ref z31_0])), (z31_0, .inl (cI, 16, .inl (fun _ => 0))), (q38, .inr (4, [.ref z42_0, .ref z42_1, .ref z42_2, .int 0])), (z42_0, .inl (cI, 32, .inl (fun _ => 0))), (z42_1, .inl (cI, 64, .inl (fun _ => 0))), (z42_2, .inl (cI, 8, .inl (fun _ => 0))), (q50, .inl (cI, 2, .inl (upd (upd (fun _ => 0) ((0 : Int32)).toNatClampNeg (-1 : Int32)) ((1 : Int32)).toNatClampNeg (-1 : Int32)))), (q65, .inl (cI, 2, .inl (fun _ => 0))), (q73, .inl (cI, 16, .inl (fun _ => 0))), (q81, .inl (cI, 8, .inl (fun _ => 0)))] := hD
  refine va_putF (D := (dC, dI)) (ci := 0) (v := .ref q81) (ty := (.array .int)) (C := R_BC) (T := F_BC) (N := 8) hx hb hts in_BC t_BC t_BC_ok n_BC hown hK hP hD hS 0 rfl rfl 7 (by decide) (hts _ gw_72) (fun _ h9 => h9) rfl hin rfl (by decide +kernel) rfl rfl (Nat.le_of_ble_eq_true rfl) d_BC_init_83 (fun H locs hP hD hS => ?_)
  have hP : va_P (dC, dI) classes [(h, .inr (0, [.ref q5, .ref q16, .ref q27, .ref q38, .ref q50, .ref q65, .ref q73, .ref q81])), (q5, .inr (1, [.ref z9_0, .int (-1 : Int32)])), (z9_0, .inl (cI, 70, .inl (fun _ => 0))), (q16, .inr (2, [.ref z20_0, .int 0])), (z20_0, .inl (cI, 6, .inl (fun _ => 0))), (q27, .inr (3, [.ref z31_0])), (z31_0, .inl (cI, 16, .inl (fun _ => 0))), (q38, .inr (4, [.ref z42_0, .ref z42_1, .ref z42_2, .int 0])), (z42_0, .inl (cI, 32, .inl (fun _ => 0))), (z42_1, .inl (cI, 64, .inl (fun _ => 0))), (z42_2, .inl (cI, 8, .inl (fun _ => 0))), (q50, .inl (cI, 2, .inl (upd (upd (fun _ => 0) ((0 : Int32)).toNatClampNeg (-1 : Int32)) ((1 : Int32)).toNatClampNeg (-1 : Int32)))), (q65, .inl (cI, 2, .inl (fun _ => 0))), (q73, .inl (cI, 16, .inl (fun _ => 0))), (q81, .inl (cI, 8, .inl (fun _ => 0)))] H := hP
  have hD : va_D A [(h, .inr (0, [.ref q5, .ref q16, .ref q27, .ref q38, .ref q50, .ref q65, .ref q73, .ref q81])), (q5, .inr (1, [.ref z9_0, .int (-1 : Int32)])), (z9_0, .inl (cI, 70, .inl (fun _ => 0))), (q16, .inr (2, [.ref z20_0, .int 0])), (z20_0, .inl (cI, 6, .inl (fun _ => 0))), (q27, .inr (3, [.ref z31_0])), (z31_0, .inl (cI, 16, .inl (fun _ => 0))), (q38, .inr (4, [.ref z42_0, .ref z42_1, .ref z42_2, .int 0])), (z42_0, .inl (cI, 32, .inl (fun _ => 0))), (z42_1, .inl (cI, 64, .inl (fun _ => 0))), (z42_2, .inl (cI, 8, .inl (fun _ => 0))), (q50, .inl (cI, 2, .inl (upd (upd (fun _ => 0) ((0 : Int32)).toNatClampNeg (-1 : Int32)) ((1 : Int32)).toNatClampNeg (-1 : Int32)))), (q65, .inl (cI, 2, .inl (fun _ => 0))), (q73, .inl (cI, 16, .inl (fun _ => 0))), (q81, .inl (cI, 8, .inl (fun _ => 0)))] := hD
  exact W.vret hx hb hr (fun t ht hW => ⟨⟨(q5, z9_0, q16, z20_0, q27, z31_0, q38, z42_0, z42_1, z42_2, q50, q65, q73, q81), rfl, trivial, by rw [ht]; exact hP, va_K.moved hW.alike hK, hD⟩, hS.F ht⟩) hS.2.2 d_BC_init_86
