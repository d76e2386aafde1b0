theorem mo_add {wo th le lo da si : Int32} {tx : Nat → Int64} (k : Nat) (hs : si = nI k) : (f_MO_add wo th le lo da si tx).1 = nI (k + 1) := by
  subst hs
  exact nI_1 k
theorem ix_k {x : Int32} {k : Nat} (h : x = nI k) (hk : k < 48) : vp_in x 48 := by
  subst h
  exact vp_in_nI hk (by decide)
theorem ad_w {y co : Int32} (h : y = 0) (hc : 0 ≤ co ∧ ¬ 25 ≤ co) : ad_ok y co := by
  obtain ⟨j, hj, rfl⟩ := nI_of (Int32.not_lt.mpr hc.1)
  have h2 := hc.2
  rw [show (25 : Int32) = nI 25 from rfl, nI_leI (by decide) hj] at h2
  exact ad_of (k := 0) h j (by omega)
theorem sz_w {fi th le lo da y co : Int32} {tx : Nat → Int64} (h : y = 0) (hc : 0 ≤ co ∧ ¬ 25 ≤ co) : 0 ≤ (f_MO_addCount fi co th le lo da y tx).1 ∧ (f_MO_addCount fi co th le lo da y tx).1 ≤ 24 := by
  obtain ⟨j, hj, rfl⟩ := nI_of (Int32.not_lt.mpr hc.1)
  have h2 := hc.2
  rw [show (25 : Int32) = nI 25 from rfl, nI_leI (by decide) hj] at h2
  exact sz_ok (mo_cnt 0 j h (by omega)) (by omega)
theorem ix_place {pl wd : Int32} (h : 0 ≤ f_MO_placeOf pl wd) : vp_in (f_MO_placeOf pl wd) 70 := by
  unfold f_MO_placeOf at h ⊢
  by_cases h0 : f_MO_out pl 6 = 0
  · rw [if_pos h0] at h ⊢
    have hp := out_ok h0
    obtain ⟨a, ha, rfl⟩ := nI_of (Int32.not_lt.mpr hp.1)
    have hp2 := hp.2
    rw [show (6 : Int32) = nI 6 from rfl, nI_leI (by decide) ha] at hp2
    by_cases h1 : (4 : Int32) ≤ nI a
    · rw [if_pos h1] at h ⊢
      unfold f_MO_placeOf_j21 at h ⊢
      by_cases h2 : f_MO_out wd 3 = 0
      · rw [if_pos h2, if_pos h1]
        have hw := out_ok h2
        obtain ⟨b, hb, rfl⟩ := nI_of (Int32.not_lt.mpr hw.1)
        have hw2 := hw.2
        rw [show (3 : Int32) = nI 3 from rfl, nI_leI (by decide) hb] at hw2
        rw [show (4 : Int32) = nI 4 from rfl, nI_leI (by decide) ha] at h1
        rw [show (4 : Int32) = nI 4 from rfl, pk_sub h1, show (3 : Int32) = nI 3 from rfl, pk_mul, show (64 : Int32) = nI 64 from rfl, nI_add, nI_add]
        exact vp_in_nI (by omega) (by decide)
      · rw [if_neg h2] at h; exact absurd h (by decide)
    · rw [if_neg h1] at h ⊢
      unfold f_MO_placeOf_j21 at h ⊢
      by_cases h2 : f_MO_out wd 16 = 0
      · rw [if_pos h2, if_neg h1]
        have hw := out_ok h2
        obtain ⟨b, hb, rfl⟩ := nI_of (Int32.not_lt.mpr hw.1)
        have hw2 := hw.2
        rw [show (16 : Int32) = nI 16 from rfl, nI_leI (by decide) hb] at hw2
        rw [show (4 : Int32) = nI 4 from rfl, nI_leI (by decide) ha] at h1
        rw [show (16 : Int32) = nI 16 from rfl, pk_mul, nI_add]
        exact vp_in_nI (by omega) (by decide)
      · rw [if_neg h2] at h; exact absurd h (by decide)
  · rw [if_neg h0] at h; exact absurd h (by decide)
/-- payload: while nothing is wrong there is room for what is left -/
def pl_inv (x y t : Int32) : Prop := 0 ≤ y ∧ (t = 0 → (-1 ≤ x.toInt ∧ y.toInt + x.toInt + 1 ≤ 24))
theorem pl_entry {da n : Int32} (hda : 0 ≤ da ∧ da ≤ 24) (h1 : ¬ n < 1) (h2 : n ≤ 8) (h3 : da + n ≤ 24) : pl_inv (n - 1) da 0 := by
  obtain ⟨a, ha, rfl⟩ := sm_nI 24 hda.1 hda.2 rfl (by decide)
  obtain ⟨b, hb, rfl⟩ := sm_nI 8 (show 0 ≤ n from by
    rw [Int32.le_iff_toInt_le]
    rw [Int32.lt_iff_toInt_lt] at h1
    have e1 : (1 : Int32).toInt = 1 := by decide
    have e0 : (0 : Int32).toInt = 0 := by decide
    omega) h2 rfl (by decide)
  have hb1 : 1 ≤ b := by
    rw [show (1 : Int32) = nI 1 from rfl, nI_ltI (by omega) (by decide)] at h1
    omega
  rw [nI_add, show (24 : Int32) = nI 24 from rfl, nI_leI (by omega) (by decide)] at h3
  refine ⟨nI_pos' (by omega), fun _ => ?_⟩
  rw [show (1 : Int32) = nI 1 from rfl, pk_sub hb1, nI_toInt (by omega), nI_toInt (by omega)]
  omega
theorem pl_ms {x y t : Int32} (h : pl_inv x y t) : (if t = 0 then (x.toInt + 1).toNat else 0) < 26 := by
  split
  · rename_i ht
    have h2 := h.2 ht
    have h3 := Int32.le_iff_toInt_le.mp h.1
    have e0 : (0 : Int32).toInt = 0 := by decide
    omega
  · omega
theorem pl_y {x y t : Int32} (h : pl_inv x y t) (h0 : ¬ x < 0) (ht : t = 0) : 0 ≤ y ∧ ¬ 24 ≤ y := by
  refine ⟨h.1, fun h1 => ?_⟩
  have h2 := h.2 ht
  rw [Int32.le_iff_toInt_le] at h1
  rw [Int32.lt_iff_toInt_lt] at h0
  have e0 : (0 : Int32).toInt = 0 := by decide
  have e24 : (24 : Int32).toInt = 24 := by decide
  omega
theorem toInt_dn {x : Int32} (h0 : ¬ x < 0) : (x + (-1)).toInt = x.toInt - 1 := by
  obtain ⟨j, hj, rfl⟩ := nI_of h0
  cases j with
  | zero => decide
  | succ j =>
    rw [pk_m1, nI_toInt hj, nI_toInt (show j < 2 ^ 31 by omega)]
    omega
theorem pl_step {x y t : Int32} (h : pl_inv x y t) (h0 : ¬ x < 0) (ht : t = 0) : pl_inv (x + (-1)) (y + 1) t := by
  have hy := pl_y h h0 ht
  refine ⟨(lp_up hy.1 hy.2).1.1, fun _ => ?_⟩
  have h2 := h.2 ht
  rw [toInt_dn h0, toInt_up hy.1 hy.2]
  rw [Int32.lt_iff_toInt_lt] at h0
  have e0 : (0 : Int32).toInt = 0 := by decide
  omega
theorem pl_dn {x t : Int32} {n : Nat} (h0 : ¬ x < 0) (ht : t = 0) (hm : (if t = 0 then (x.toInt + 1).toNat else 0) < n + 1) : (if t = 0 then ((x + (-1)).toInt + 1).toNat else 0) < n := by
  rw [if_pos ht] at hm ⊢
  rw [toInt_dn h0]
  rw [Int32.lt_iff_toInt_lt] at h0
  have e0 : (0 : Int32).toInt = 0 := by decide
  omega
theorem pl_ix {x y t : Int32} (h : pl_inv x y t) (h0 : ¬ x < 0) (ht : t = 0) : vp_in y 24 := ix_sub 24 24 (pl_y h h0 ht).1 (pl_y h h0 ht).2 rfl (by decide) (by decide)
/-- the body's words -/
theorem ad_e7 {si : Int32} (h : ad_ok si 7) : ad_inv 6 0 (si + 1) := by
  have h3 := h.2.2
  have e7 : (7 : Int32).toInt = 7 := by decide
  have e6 : (6 : Int32).toInt = 6 := by decide
  have e0 : (0 : Int32).toInt = 0 := by decide
  have e24 : (24 : Int32).toInt = 24 := by decide
  have hn : ¬ 24 ≤ si := by rw [Int32.le_iff_toInt_le]; omega
  refine ⟨by decide, by decide, (lp_up h.1 hn).1.1, ?_⟩
  rw [toInt_up h.1 hn]
  omega
theorem ad_ix0 {si : Int32} (h : ad_ok si 7) : vp_in si 48 := by
  have h3 := h.2.2
  have e7 : (7 : Int32).toInt = 7 := by decide
  have e24 : (24 : Int32).toInt = 24 := by decide
  exact ix_sub (N := 24) 24 48 h.1 (by rw [Int32.le_iff_toInt_le]; omega) rfl (by decide) (by decide)
theorem ab_w {x y : Int32} (h : ad_inv 6 x y) (h1 : ¬ 6 ≤ x) : ∃ j : Nat, j < 6 ∧ x = nI j := by
  obtain ⟨j, hj, rfl⟩ := nI_of (Int32.not_lt.mpr h.1)
  rw [show (6 : Int32) = nI 6 from rfl, nI_leI (by decide) hj] at h1
  exact ⟨j, by omega, rfl⟩
theorem ab_k {x y : Int32} (h : ad_inv 6 x y) (h1 : ¬ 6 ≤ x) : 0 ≤ 4 * x := by
  obtain ⟨j, hj, rfl⟩ := ab_w h h1
  rw [show (4 : Int32) = nI 4 from rfl, pk_mul]
  exact nI_pos' (by omega)
theorem ab_ms {x y : Int32} (h : ad_inv 6 x y) (h1 : ¬ 6 ≤ x) : ((4 * x + 4).toInt - (4 * x).toInt).toNat < 5 := by
  obtain ⟨j, hj, rfl⟩ := ab_w h h1
  rw [show (4 : Int32) = nI 4 from rfl, pk_mul, nI_add, nI_toInt (by omega), nI_toInt (by omega)]
  omega
theorem ab_ix {x y k : Int32} (h : ad_inv 6 x y) (h1 : ¬ 6 ≤ x) (hk : 0 ≤ k) (h2 : ¬ (4 * x + 4) ≤ k) : vp_in k 24 := by
  obtain ⟨j, hj, rfl⟩ := ab_w h h1
  exact ix_sub (4 * j + 4) 24 hk h2 (by rw [show (4 : Int32) = nI 4 from rfl, pk_mul, nI_add]) (by omega) (by decide)
/-- good: where it reads -/
theorem and255 (x : Int32) : 0 ≤ (x &&& 255) := by
  obtain ⟨j, hj, he⟩ := pk_andE x 8 (m := 255) (by decide)
  rw [he]
  exact nI_pos' (by omega)
theorem ix_f7 {so : Int32} (h : 0 ≤ so ∧ so < 4) : vp_in (16 * so + 7) 70 := by
  rcases sl_cases h with rfl | rfl | rfl | rfl <;> (unfold vp_in; decide +kernel)
theorem st_half {so : Int32} (h : 0 ≤ so ∧ so < 4) : so / 2 = 0 ∨ so / 2 = 1 := by
  rcases sl_cases h with rfl | rfl | rfl | rfl <;> decide
theorem ix_fk {so k : Int32} (h : 0 ≤ so ∧ so < 4) (h0 : 0 ≤ k) (h1 : ¬ 24 ≤ k) : vp_in (16 * so + 1 + k / 4) 70 := by
  rcases sl_cases h with rfl | rfl | rfl | rfl
  · exact ix_div4 1 70 24 h0 h1 rfl (by decide) (by decide) (by decide)
  · exact ix_div4 17 70 24 h0 h1 rfl (by decide) (by decide) (by decide)
  · exact ix_div4 33 70 24 h0 h1 rfl (by decide) (by decide) (by decide)
  · exact ix_div4 49 70 24 h0 h1 rfl (by decide) (by decide) (by decide)
theorem ix_f8 {so k : Int32} (h : 0 ≤ so ∧ so < 4) (h0 : 0 ≤ k) (h1 : ¬ 8 ≤ k) : vp_in (16 * so + 8 + k) 70 := by
  rcases sl_cases h with rfl | rfl | rfl | rfl
  · exact ix_off 8 70 8 h0 h1 rfl (by decide) (by decide)
  · exact ix_off 24 70 8 h0 h1 rfl (by decide) (by decide)
  · exact ix_off 40 70 8 h0 h1 rfl (by decide) (by decide)
  · exact ix_off 56 70 8 h0 h1 rfl (by decide) (by decide)

-- MO_payload
theorem d_MO_payload_0 : decode prog_8_method_22_code 0 = .ok (.aload_n 0, 1) := by decide +kernel
theorem d_MO_payload_1 : decode prog_8_method_22_code 1 = .ok (.iload_n 3, 1) := by decide +kernel
theorem d_MO_payload_2 : decode prog_8_method_22_code 2 = .ok (.iconst 1, 1) := by decide +kernel
theorem d_MO_payload_3 : decode prog_8_method_22_code 3 = .ok (.if_icmp .lt 9, 3) := by decide +kernel
theorem d_MO_payload_6 : decode prog_8_method_22_code 6 = .ok (.iload_n 3, 1) := by decide +kernel
theorem d_MO_payload_7 : decode prog_8_method_22_code 7 = .ok (.bipush 8, 2) := by decide +kernel
theorem d_MO_payload_9 : decode prog_8_method_22_code 9 = .ok (.if_icmp .le 7, 3) := by decide +kernel
theorem d_MO_payload_12 : decode prog_8_method_22_code 12 = .ok (.iconst 1, 1) := by decide +kernel
theorem d_MO_payload_13 : decode prog_8_method_22_code 13 = .ok (.goto 19, 3) := by decide +kernel
theorem d_MO_payload_16 : decode prog_8_method_22_code 16 = .ok (.aload_n 0, 1) := by decide +kernel
theorem d_MO_payload_17 : decode prog_8_method_22_code 17 = .ok (.getfield 251, 3) := by decide +kernel
theorem d_MO_payload_20 : decode prog_8_method_22_code 20 = .ok (.iload_n 3, 1) := by decide +kernel
theorem d_MO_payload_21 : decode prog_8_method_22_code 21 = .ok (.iadd, 1) := by decide +kernel
theorem d_MO_payload_22 : decode prog_8_method_22_code 22 = .ok (.bipush 24, 2) := by decide +kernel
theorem d_MO_payload_24 : decode prog_8_method_22_code 24 = .ok (.if_icmp .le 7, 3) := by decide +kernel
theorem d_MO_payload_27 : decode prog_8_method_22_code 27 = .ok (.iconst 2, 1) := by decide +kernel
theorem d_MO_payload_28 : decode prog_8_method_22_code 28 = .ok (.goto 4, 3) := by decide +kernel
theorem d_MO_payload_31 : decode prog_8_method_22_code 31 = .ok (.iconst 0, 1) := by decide +kernel
theorem d_MO_payload_32 : decode prog_8_method_22_code 32 = .ok (.putfield 195, 3) := by decide +kernel
theorem d_MO_payload_35 : decode prog_8_method_22_code 35 = .ok (.iload_n 3, 1) := by decide +kernel
theorem d_MO_payload_36 : decode prog_8_method_22_code 36 = .ok (.iconst 1, 1) := by decide +kernel
theorem d_MO_payload_37 : decode prog_8_method_22_code 37 = .ok (.isub, 1) := by decide +kernel
theorem d_MO_payload_38 : decode prog_8_method_22_code 38 = .ok (.istore 4, 2) := by decide +kernel
theorem d_MO_payload_40 : decode prog_8_method_22_code 40 = .ok (.iload 4, 2) := by decide +kernel
theorem d_MO_payload_42 : decode prog_8_method_22_code 42 = .ok (.ifCond .lt 47, 3) := by decide +kernel
theorem d_MO_payload_45 : decode prog_8_method_22_code 45 = .ok (.aload_n 0, 1) := by decide +kernel
theorem d_MO_payload_46 : decode prog_8_method_22_code 46 = .ok (.getfield 195, 3) := by decide +kernel
theorem d_MO_payload_49 : decode prog_8_method_22_code 49 = .ok (.ifCond .ne 40, 3) := by decide +kernel
theorem d_MO_payload_52 : decode prog_8_method_22_code 52 = .ok (.aload_n 0, 1) := by decide +kernel
theorem d_MO_payload_53 : decode prog_8_method_22_code 53 = .ok (.getfield 26, 3) := by decide +kernel
theorem d_MO_payload_56 : decode prog_8_method_22_code 56 = .ok (.aload_n 0, 1) := by decide +kernel
theorem d_MO_payload_57 : decode prog_8_method_22_code 57 = .ok (.getfield 251, 3) := by decide +kernel
theorem d_MO_payload_60 : decode prog_8_method_22_code 60 = .ok (.lload_n 1, 1) := by decide +kernel
theorem d_MO_payload_61 : decode prog_8_method_22_code 61 = .ok (.bipush 8, 2) := by decide +kernel
theorem d_MO_payload_63 : decode prog_8_method_22_code 63 = .ok (.iload 4, 2) := by decide +kernel
theorem d_MO_payload_65 : decode prog_8_method_22_code 65 = .ok (.imul, 1) := by decide +kernel
theorem d_MO_payload_66 : decode prog_8_method_22_code 66 = .ok (.lshr, 1) := by decide +kernel
theorem d_MO_payload_67 : decode prog_8_method_22_code 67 = .ok (.ldc2_w 254, 3) := by decide +kernel
theorem d_MO_payload_70 : decode prog_8_method_22_code 70 = .ok (.land, 1) := by decide +kernel
theorem d_MO_payload_71 : decode prog_8_method_22_code 71 = .ok (.l2i, 1) := by decide +kernel
theorem d_MO_payload_72 : decode prog_8_method_22_code 72 = .ok (.iastore, 1) := by decide +kernel
theorem d_MO_payload_73 : decode prog_8_method_22_code 73 = .ok (.aload_n 0, 1) := by decide +kernel
theorem d_MO_payload_74 : decode prog_8_method_22_code 74 = .ok (.dup, 1) := by decide +kernel
theorem d_MO_payload_75 : decode prog_8_method_22_code 75 = .ok (.getfield 251, 3) := by decide +kernel
theorem d_MO_payload_78 : decode prog_8_method_22_code 78 = .ok (.iconst 1, 1) := by decide +kernel
theorem d_MO_payload_79 : decode prog_8_method_22_code 79 = .ok (.iadd, 1) := by decide +kernel
theorem d_MO_payload_80 : decode prog_8_method_22_code 80 = .ok (.putfield 251, 3) := by decide +kernel
theorem d_MO_payload_83 : decode prog_8_method_22_code 83 = .ok (.iinc 4 (-1), 3) := by decide +kernel
theorem d_MO_payload_86 : decode prog_8_method_22_code 86 = .ok (.goto (-46), 3) := by decide +kernel
theorem d_MO_payload_89 : decode prog_8_method_22_code 89 = .ok (.return_, 1) := by decide +kernel
def y_MO_payload : MethodName := ⟨"BootChainModel", "payload", "(JI)V"⟩
def ws_MO_payload : List Cond := .code y_MO_payload prog_8_method_22_code 5 none :: bc_G
def f_MO_payload_40 (bb : Int64) (n0 : Int32) (th : Int32) (le : Int32) (lo : Int32) (da : Int32) (si : Int32) (dr : Nat → Int32) : Nat → Int32 → Int32 → Int32 → (Nat → Int32) → Int32 × Int32 × (Nat → Int32)
  | 0, x4, y0_0, y0_7, y1 => (y0_0, y0_7, y1)
  | n + 1, x4, y0_0, y0_7, y1 => if x4 < 0 then (y0_0, y0_7, y1) else if y0_0 = 0 then f_MO_payload_40 bb n0 th le lo da si dr n (x4 + (-1 : Int32)) y0_0 (y0_7 + (1 : Int32)) (upd y1 (y0_7).toNatClampNeg ((((jsr bb ((8 : Int32) * x4)) &&& (255 : Int64))).toInt32)) else (y0_0, y0_7, y1)
def f_MO_payload (bb : Int64) (n0 : Int32) (th : Int32) (le : Int32) (lo : Int32) (da : Int32) (si : Int32) (dr : Nat → Int32) : Int32 × Int32 × (Nat → Int32) := if n0 < (1 : Int32) then f_MO_payload_40 bb n0 th le lo da si dr 26 (n0 - (1 : Int32)) (1 : Int32) da dr else if n0 ≤ (8 : Int32) then if (da + n0) ≤ (24 : Int32) then f_MO_payload_40 bb n0 th le lo da si dr 26 (n0 - (1 : Int32)) (0 : Int32) da dr else f_MO_payload_40 bb n0 th le lo da si dr 26 (n0 - (1 : Int32)) (2 : Int32) da dr else f_MO_payload_40 bb n0 th le lo da si dr 26 (n0 - (1 : Int32)) (1 : Int32) da dr
set_option maxHeartbeats 4000000 in
set_option maxRecDepth 100000 in
theorem c_MO_payload (l : Launch) (dC : Nat → ClassId) (dI : Nat → Nat → Nat) (cI cJ : ClassId) (h af ak ar ag ad ac ab ax aw an av aa : Nat) (sz : Nat) (bb : Int64) (n0 : Int32) (th : Int32) (le : Int32) (lo : Int32) (da : Int32) (si : Int32) (dr : Nat → Int32) (hda : 0 ≤ da ∧ da ≤ 24) : Met l y_MO_payload ws_MO_payload ({ frames := 0, cells := 0, slots := 0, locals := 0 } : Room) (va_Pc [.ref h, .long bb, .int n0] (bc_pre (dC, dI) cI cJ [(h, .inr (5, [.int th, .ref af, .ref ak, .ref ar, .ref ag, .int le, .int lo, .int da, .ref ad, .ref ac, .ref ab, .int si, .ref ax, .ref aw, .ref an, .ref av, .ref aa])), (ad, .inl (cI, 24, .inl dr))] sz)) (va_Qv (fun (_ : Unit) => True) (fun _ => bc_post (dC, dI) cI cJ (va_A [(h, .inr (5, [.int th, .ref af, .ref ak, .ref ar, .ref ag, .int le, .int lo, .int da, .ref ad, .ref ac, .ref ab, .int si, .ref ax, .ref aw, .ref an, .ref av, .ref aa])), (ad, .inl (cI, 24, .inl dr))] sz) [(h, .inr (5, [.int (f_MO_payload bb n0 th le lo da si dr).1, .ref af, .ref ak, .ref ar, .ref ag, .int le, .int lo, .int (f_MO_payload bb n0 th le lo da si dr).2.1, .ref ad, .ref ac, .ref ab, .int si, .ref ax, .ref aw, .ref an, .ref av, .ref aa])), (ad, .inl (cI, 24, .inl (f_MO_payload bb n0 th le lo da si dr).2.2))]) (va_A [(h, .inr (5, [.int th, .ref af, .ref ak, .ref ar, .ref ag, .int le, .int lo, .int da, .ref ad, .ref ac, .ref ab, .int si, .ref ax, .ref aw, .ref an, .ref av, .ref aa])), (ad, .inl (cI, 24, .inl dr))] sz)) 0 0 (va_A [(h, .inr (5, [.int th, .ref af, .ref ak, .ref ar, .ref ag, .int le, .int lo, .int da, .ref ad, .ref ac, .ref ab, .int si, .ref ax, .ref aw, .ref an, .ref av, .ref aa])), (ad, .inl (cI, 24, .inl dr))] sz) := by
  refine Met.ofW (cc := prog_8_method_22_code) (maxL := 5) (ret := none) (by decide) rfl ?_
  intro p e s m args below meth c s₁ B hml hv
  obtain ⟨rfl, hsz, hP, hK, hD0, hE⟩ := hv
  have hx := B.exec
  have hb := B.bytes
  have hr := B.returns
  have hts : ∀ w ∈ bc_G, w.before ([.ref h, .long bb, .int n0] : List Value).toArray s = true := fun w h => atoms_spec (ws := ws_MO_payload) B.pre w (List.mem_cons_of_mem _ h)
  have hown : s.vm.findClass "BootChainModel" = some m.cls := findClass_of_methodNamed B.named
  have hlocks := B.notSynchronized
  subst hsz
  have hD := hD0.self (sz := s.heap.size)
  generalize hAe : va_A [(h, .inr (5, [.int th, .ref af, .ref ak, .ref ar, .ref ag, .int le, .int lo, .int da, .ref ad, .ref ac, .ref ab, .int si, .ref ax, .ref aw, .ref an, .ref av, .ref aa])), (ad, .inl (cI, 24, .inl dr))] s.heap.size = A at hD hE ⊢
  have hA : ∀ q : Nat, s.heap.size ≤ q → A q := fun q h => by rw [← hAe]; exact Or.inr h
  have hS : va_S A s.heap s.heap [] := va_S.rf
  have lp_40 : ∀ (n : Nat) (x4 : Int32) (y0_0 : Int32) (y0_7 : Int32) (y1 : Nat → Int32) (H : Heap) (locs : List Loc) (ls : Array Slot), pl_inv x4 y0_7 y0_0 → (if y0_0 = 0 then (x4.toInt + 1).toNat else 0) < n → lv_has ls 5 [(0, .ref h), (1, .long bb), (4, .int x4)] → va_P (dC, dI) classes [(h, .inr (5, [.int y0_0, .ref af, .ref ak, .ref ar, .ref ag, .int le, .int lo, .int y0_7, .ref ad, .ref ac, .ref ab, .int si, .ref ax, .ref aw, .ref an, .ref av, .ref aa])), (ad, .inl (cI, 24, .inl y1))] H → va_D A [(h, .inr (5, [.int y0_0, .ref af, .ref ak, .ref ar, .ref ag, .int le, .int lo, .int y0_7, .ref ad, .ref ac, .ref ab, .int si, .ref ax, .ref aw, .ref an, .ref av, .ref aa])), (ad, .inl (cI, 24, .inl y1))] → va_S A s.heap H locs → W p l e (headSpec ws_MO_payload ({ frames := 0, cells := 0, slots := 0, locals := 0 } : Room)).room s m ([.ref h, .long bb, .int n0] : List Value).toArray below meth c H locs 0 0 (MQ below (va_Qv (fun (_ : Unit) => True) (fun _ => bc_post (dC, dI) cI cJ A [(h, .inr (5, [.int (f_MO_payload_40 bb n0 th le lo da si dr n x4 y0_0 y0_7 y1).1, .ref af, .ref ak, .ref ar, .ref ag, .int le, .int lo, .int (f_MO_payload_40 bb n0 th le lo da si dr n x4 y0_0 y0_7 y1).2.1, .ref ad, .ref ac, .ref ab, .int si, .ref ax, .ref aw, .ref an, .ref av, .ref aa])), (ad, .inl (cI, 24, .inl (f_MO_payload_40 bb n0 th le lo da si dr n x4 y0_0 y0_7 y1).2.2))]) A) ([.ref h, .long bb, .int n0] : List Value).toArray s 0 0 A) (F0 m 40 ls []) := by
    intro n
    induction n with
    | zero => intro x4 y0_0 y0_7 y1 H locs ls hI hm; exact absurd hm (Nat.not_lt_zero _)
    | succ n ih =>
      intro x4 y0_0 y0_7 y1 H locs ls hI hm hl hP hD hS
      refine lv_iload hx hb d_MO_payload_40 (lv_at hl 2 rfl) ?_
      refine lv_if_lt (tgt := 89) hx hb d_MO_payload_42 (by decide) (fun h9 => ?_) (fun h9 => ?_)
      · have e0 : (f_MO_payload_40 bb n0 th le lo da si dr (n + 1) x4 y0_0 y0_7 y1) = (y0_0, y0_7, y1) := by rw [f_MO_payload_40, if_pos h9]
        rw [e0]
        exact W.vret hx hb hr (fun t ht hW => ⟨⟨(), rfl, trivial, by rw [ht]; exact hP, va_K.moved hW.alike hK, hD⟩, hS.F ht⟩) hS.2.2 d_MO_payload_89
      · refine lv_aload_n hx hb d_MO_payload_45 rfl (lv_at hl 0 rfl) ?_
        refine va_get (D := (dC, dI)) (ci := 5) (v := .int y0_0) (C := R_MO) (T := F_MO) (N := 17) hx hb hts in_MO hown hK hP 0 rfl rfl 0 (by decide) (hts _ gw_518) (fun _ h9 => h9) rfl d_MO_payload_46 ?_
        refine lv_if_ne (tgt := 89) hx hb d_MO_payload_49 (by decide) (fun h10 => ?_) (fun h10 => ?_)
        · have e0 : (f_MO_payload_40 bb n0 th le lo da si dr (n + 1) x4 y0_0 y0_7 y1) = (y0_0, y0_7, y1) := by rw [f_MO_payload_40, if_neg h9, if_neg h10]
          rw [e0]
          exact W.vret hx hb hr (fun t ht hW => ⟨⟨(), rfl, trivial, by rw [ht]; exact hP, va_K.moved hW.alike hK, hD⟩, hS.F ht⟩) hS.2.2 d_MO_payload_89
        · refine lv_aload_n hx hb d_MO_payload_52 rfl (lv_at hl 0 rfl) ?_
          refine va_get (D := (dC, dI)) (ci := 5) (v := .ref ad) (C := R_MO) (T := F_MO) (N := 17) hx hb hts in_MO hown hK hP 0 rfl rfl 8 (by decide) (hts _ gw_526) (fun _ h9 => h9) rfl d_MO_payload_53 ?_
          refine lv_aload_n hx hb d_MO_payload_56 rfl (lv_at hl 0 rfl) ?_
          refine va_get (D := (dC, dI)) (ci := 5) (v := .int y0_7) (C := R_MO) (T := F_MO) (N := 17) hx hb hts in_MO hown hK hP 0 rfl rfl 7 (by decide) (hts _ gw_525) (fun _ h9 => h9) rfl d_MO_payload_57 ?_
          refine lv_lload_n hx hb d_MO_payload_60 rfl (lv_at hl 1 rfl) ?_
          refine lv_bipush (v := 8) hx hb d_MO_payload_61 (by decide) ?_
          refine lv_iload hx hb d_MO_payload_63 (lv_at hl 2 rfl) ?_
          refine lv_imul hx hb d_MO_payload_65 ?_
          refine lv_lshr (v := (jsr bb ((8 : Int32) * x4))) hx hb d_MO_payload_66 rfl ?_
          refine lv_ldc2 (v := 255) hx hb hown (hts _ gw_562) d_MO_payload_67 ?_
          refine lv_land hx hb d_MO_payload_70 ?_
          refine lv_l2i (v := ((((jsr bb ((8 : Int32) * x4)) &&& (255 : Int64))).toInt32)) hx hb d_MO_payload_71 rfl ?_
          refine va_iast hx hb hK hP hD hS 1 0 rfl rfl (by exact pl_ix hI (by assumption) (by assumption)) d_MO_payload_72 (fun H locs hP hD hS => ?_)
          have hP : va_P (dC, dI) classes [(h, .inr (5, [.int y0_0, .ref af, .ref ak, .ref ar, .ref ag, .int le, .int lo, .int y0_7, .ref ad, .ref ac, .ref ab, .int si, .ref ax, .ref aw, .ref an, .ref av, .ref aa])), (ad, .inl (cI, 24, .inl (upd y1 (y0_7).toNatClampNeg ((((jsr bb ((8 : Int32) * x4)) &&& (255 : Int64))).toInt32))))] H := hP
          have hD : va_D A [(h, .inr (5, [.int y0_0, .ref af, .ref ak, .ref ar, .ref ag, .int le, .int lo, .int y0_7, .ref ad, .ref ac, .ref ab, .int si, .ref ax, .ref aw, .ref an, .ref av, .ref aa])), (ad, .inl (cI, 24, .inl (upd y1 (y0_7).toNatClampNeg ((((jsr bb ((8 : Int32) * x4)) &&& (255 : Int64))).toInt32))))] := hD
          refine lv_aload_n hx hb d_MO_payload_73 rfl (lv_at hl 0 rfl) ?_
          refine lv_dup hx hb d_MO_payload_74 rfl ?_
          refine va_get (D := (dC, dI)) (ci := 5) (v := .int y0_7) (C := R_MO) (T := F_MO) (N := 17) hx hb hts in_MO hown hK hP 0 rfl rfl 7 (by decide) (hts _ gw_525) (fun _ h9 => h9) rfl d_MO_payload_75 ?_
          refine lv_iconst (v := 1) hx hb d_MO_payload_78 (by decide) ?_
          refine lv_iadd hx hb d_MO_payload_79 ?_
          refine va_put (D := (dC, dI)) (ci := 5) (v := .int (y0_7 + (1 : Int32))) (ty := .int) (C := R_MO) (T := F_MO) (N := 17) hx hb hts in_MO t_MO t_MO_ok n_MO hown hK hP hD hS 0 rfl rfl 7 (by decide) (hts _ gw_525) (fun _ h9 => h9) rfl (by decide +kernel) rfl rfl (Nat.le_of_ble_eq_true rfl) d_MO_payload_80 (fun H locs hP hD hS => ?_)
          have hP : va_P (dC, dI) classes [(h, .inr (5, [.int y0_0, .ref af, .ref ak, .ref ar, .ref ag, .int le, .int lo, .int (y0_7 + (1 : Int32)), .ref ad, .ref ac, .ref ab, .int si, .ref ax, .ref aw, .ref an, .ref av, .ref aa])), (ad, .inl (cI, 24, .inl (upd y1 (y0_7).toNatClampNeg ((((jsr bb ((8 : Int32) * x4)) &&& (255 : Int64))).toInt32))))] H := hP
          have hD : va_D A [(h, .inr (5, [.int y0_0, .ref af, .ref ak, .ref ar, .ref ag, .int le, .int lo, .int (y0_7 + (1 : Int32)), .ref ad, .ref ac, .ref ab, .int si, .ref ax, .ref aw, .ref an, .ref av, .ref aa])), (ad, .inl (cI, 24, .inl (upd y1 (y0_7).toNatClampNeg ((((jsr bb ((8 : Int32) * x4)) &&& (255 : Int64))).toInt32))))] := hD
          refine lv_iinc (k := 2) (v := (x4 + (-1 : Int32))) (lv' := [(4, .int (x4 + (-1 : Int32))), (0, .ref h), (1, .long bb)]) hx hb d_MO_payload_83 hl rfl rfl (by decide) rfl (fun ls hl => ?_)
          refine lv_goto (tgt := 40) hx hb d_MO_payload_86 (by decide) ?_
          have e0 : (f_MO_payload_40 bb n0 th le lo da si dr (n + 1) x4 y0_0 y0_7 y1) = f_MO_payload_40 bb n0 th le lo da si dr n (x4 + (-1 : Int32)) y0_0 (y0_7 + (1 : Int32)) (upd y1 (y0_7).toNatClampNeg ((((jsr bb ((8 : Int32) * x4)) &&& (255 : Int64))).toInt32)) := by rw [f_MO_payload_40, if_neg h9, if_pos h10]
          rw [e0]
          exact ih (x4 + (-1 : Int32)) y0_0 (y0_7 + (1 : Int32)) (upd y1 (y0_7).toNatClampNeg ((((jsr bb ((8 : Int32) * x4)) &&& (255 : Int64))).toInt32)) _ _ ls (pl_step hI (by assumption) (by assumption)) (pl_dn (by assumption) (by assumption) hm) (lv_sub hl [1, 2, 0] rfl) hP hD hS
  have hl := lv_entry ([.ref h, .long bb, .int n0]) (n := 5) (Nat.le_of_ble_eq_true rfl)
  rw [lg_entry_eq]
  generalize (lg_sl ([.ref h, .long bb, .int n0]) ++ List.replicate (5 - (lg_sl ([.ref h, .long bb, .int n0])).length) Slot.unset).toArray = ls at hl ⊢
  have hl : lv_has ls 5 [(0, .ref h), (1, .long bb), (3, .int n0)] := hl
  refine lv_aload_n hx hb d_MO_payload_0 rfl (lv_at hl 0 rfl) ?_
  refine lv_iload_n hx hb d_MO_payload_1 rfl (lv_at hl 2 rfl) ?_
  refine lv_iconst (v := 1) hx hb d_MO_payload_2 (by decide) ?_
  refine lv_icmp_lt (tgt := 12) hx hb d_MO_payload_3 (by decide) (fun h6 => ?_) (fun h6 => ?_)
  · refine lv_iconst (v := 1) hx hb d_MO_payload_12 (by decide) ?_
    refine lv_goto (tgt := 32) hx hb d_MO_payload_13 (by decide) ?_
    refine va_put (D := (dC, dI)) (ci := 5) (v := .int (1 : Int32)) (ty := .int) (C := R_MO) (T := F_MO) (N := 17) hx hb hts in_MO t_MO t_MO_ok n_MO hown hK hP hD hS 0 rfl rfl 0 (by decide) (hts _ gw_518) (fun _ h9 => h9) rfl (by decide +kernel) rfl rfl (Nat.le_of_ble_eq_true rfl) d_MO_payload_32 (fun H locs hP hD hS => ?_)
    have hP : va_P (dC, dI) classes [(h, .inr (5, [.int (1 : Int32), .ref af, .ref ak, .ref ar, .ref ag, .int le, .int lo, .int da, .ref ad, .ref ac, .ref ab, .int si, .ref ax, .ref aw, .ref an, .ref av, .ref aa])), (ad, .inl (cI, 24, .inl dr))] H := hP
    have hD : va_D A [(h, .inr (5, [.int (1 : Int32), .ref af, .ref ak, .ref ar, .ref ag, .int le, .int lo, .int da, .ref ad, .ref ac, .ref ab, .int si, .ref ax, .ref aw, .ref an, .ref av, .ref aa])), (ad, .inl (cI, 24, .inl dr))] := hD
    refine lv_iload_n hx hb d_MO_payload_35 rfl (lv_at hl 2 rfl) ?_
    refine lv_iconst (v := 1) hx hb d_MO_payload_36 (by decide) ?_
    refine lv_isub hx hb d_MO_payload_37 ?_
    refine lv_istore (lv' := [(4, .int (n0 - (1 : Int32))), (0, .ref h), (1, .long bb), (3, .int n0)]) hx hb d_MO_payload_38 hl (by decide) rfl (fun ls hl => ?_)
    have e0 : (f_MO_payload bb n0 th le lo da si dr) = f_MO_payload_40 bb n0 th le lo da si dr 26 (n0 - (1 : Int32)) (1 : Int32) da dr := by rw [f_MO_payload, if_pos h6]
    rw [e0]
    exact lp_40 26 (n0 - (1 : Int32)) (1 : Int32) da dr _ _ ls (by first | exact pl_entry hda (by assumption) (by assumption) (by assumption) | exact ⟨hda.1, fun h => absurd h (by decide)⟩) (by first | exact pl_ms (pl_entry hda (by assumption) (by assumption) (by assumption)) | (rw [if_neg (by decide)]; decide)) (lv_sub hl [1, 2, 0] rfl) hP hD hS
  · refine lv_iload_n hx hb d_MO_payload_6 rfl (lv_at hl 2 rfl) ?_
    refine lv_bipush (v := 8) hx hb d_MO_payload_7 (by decide) ?_
    refine lv_icmp_le (tgt := 16) hx hb d_MO_payload_9 (by decide) (fun h7 => ?_) (fun h7 => ?_)
    · refine lv_aload_n hx hb d_MO_payload_16 rfl (lv_at hl 0 rfl) ?_
      refine va_get (D := (dC, dI)) (ci := 5) (v := .int da) (C := R_MO) (T := F_MO) (N := 17) hx hb hts in_MO hown hK hP 0 rfl rfl 7 (by decide) (hts _ gw_525) (fun _ h9 => h9) rfl d_MO_payload_17 ?_
      refine lv_iload_n hx hb d_MO_payload_20 rfl (lv_at hl 2 rfl) ?_
      refine lv_iadd hx hb d_MO_payload_21 ?_
      refine lv_bipush (v := 24) hx hb d_MO_payload_22 (by decide) ?_
      refine lv_icmp_le (tgt := 31) hx hb d_MO_payload_24 (by decide) (fun h8 => ?_) (fun h8 => ?_)
      · refine lv_iconst (v := 0) hx hb d_MO_payload_31 (by decide) ?_
        refine va_put (D := (dC, dI)) (ci := 5) (v := .int (0 : Int32)) (ty := .int) (C := R_MO) (T := F_MO) (N := 17) hx hb hts in_MO t_MO t_MO_ok n_MO hown hK hP hD hS 0 rfl rfl 0 (by decide) (hts _ gw_518) (fun _ h9 => h9) rfl (by decide +kernel) rfl rfl (Nat.le_of_ble_eq_true rfl) d_MO_payload_32 (fun H locs hP hD hS => ?_)
        have hP : va_P (dC, dI) classes [(h, .inr (5, [.int (0 : Int32), .ref af, .ref ak, .ref ar, .ref ag, .int le, .int lo, .int da, .ref ad, .ref ac, .ref ab, .int si, .ref ax, .ref aw, .ref an, .ref av, .ref aa])), (ad, .inl (cI, 24, .inl dr))] H := hP
        have hD : va_D A [(h, .inr (5, [.int (0 : Int32), .ref af, .ref ak, .ref ar, .ref ag, .int le, .int lo, .int da, .ref ad, .ref ac, .ref ab, .int si, .ref ax, .ref aw, .ref an, .ref av, .ref aa])), (ad, .inl (cI, 24, .inl dr))] := hD
        refine lv_iload_n hx hb d_MO_payload_35 rfl (lv_at hl 2 rfl) ?_
        refine lv_iconst (v := 1) hx hb d_MO_payload_36 (by decide) ?_
        refine lv_isub hx hb d_MO_payload_37 ?_
        refine lv_istore (lv' := [(4, .int (n0 - (1 : Int32))), (0, .ref h), (1, .long bb), (3, .int n0)]) hx hb d_MO_payload_38 hl (by decide) rfl (fun ls hl => ?_)
        have e0 : (f_MO_payload bb n0 th le lo da si dr) = f_MO_payload_40 bb n0 th le lo da si dr 26 (n0 - (1 : Int32)) (0 : Int32) da dr := by rw [f_MO_payload, if_neg h6, if_pos h7, if_pos h8]
        rw [e0]
        exact lp_40 26 (n0 - (1 : Int32)) (0 : Int32) da dr _ _ ls (by first | exact pl_entry hda (by assumption) (by assumption) (by assumption) | exact ⟨hda.1, fun h => absurd h (by decide)⟩) (by first | exact pl_ms (pl_entry hda (by assumption) (by assumption) (by assumption)) | (rw [if_neg (by decide)]; decide)) (lv_sub hl [1, 2, 0] rfl) hP hD hS
      · refine lv_iconst (v := 2) hx hb d_MO_payload_27 (by decide) ?_
        refine lv_goto (tgt := 32) hx hb d_MO_payload_28 (by decide) ?_
        refine va_put (D := (dC, dI)) (ci := 5) (v := .int (2 : Int32)) (ty := .int) (C := R_MO) (T := F_MO) (N := 17) hx hb hts in_MO t_MO t_MO_ok n_MO hown hK hP hD hS 0 rfl rfl 0 (by decide) (hts _ gw_518) (fun _ h9 => h9) rfl (by decide +kernel) rfl rfl (Nat.le_of_ble_eq_true rfl) d_MO_payload_32 (fun H locs hP hD hS => ?_)
        have hP : va_P (dC, dI) classes [(h, .inr (5, [.int (2 : Int32), .ref af, .ref ak, .ref ar, .ref ag, .int le, .int lo, .int da, .ref ad, .ref ac, .ref ab, .int si, .ref ax, .ref aw, .ref an, .ref av, .ref aa])), (ad, .inl (cI, 24, .inl dr))] H := hP
        have hD : va_D A [(h, .inr (5, [.int (2 : Int32), .ref af, .ref ak, .ref ar, .ref ag, .int le, .int lo, .int da, .ref ad, .ref ac, .ref ab, .int si, .ref ax, .ref aw, .ref an, .ref av, .ref aa])), (ad, .inl (cI, 24, .inl dr))] := hD
        refine lv_iload_n hx hb d_MO_payload_35 rfl (lv_at hl 2 rfl) ?_
        refine lv_iconst (v := 1) hx hb d_MO_payload_36 (by decide) ?_
        refine lv_isub hx hb d_MO_payload_37 ?_
        refine lv_istore (lv' := [(4, .int (n0 - (1 : Int32))), (0, .ref h), (1, .long bb), (3, .int n0)]) hx hb d_MO_payload_38 hl (by decide) rfl (fun ls hl => ?_)
        have e0 : (f_MO_payload bb n0 th le lo da si dr) = f_MO_payload_40 bb n0 th le lo da si dr 26 (n0 - (1 : Int32)) (2 : Int32) da dr := by rw [f_MO_payload, if_neg h6, if_pos h7, if_neg h8]
        rw [e0]
        exact lp_40 26 (n0 - (1 : Int32)) (2 : Int32) da dr _ _ ls (by first | exact pl_entry hda (by assumption) (by assumption) (by assumption) | exact ⟨hda.1, fun h => absurd h (by decide)⟩) (by first | exact pl_ms (pl_entry hda (by assumption) (by assumption) (by assumption)) | (rw [if_neg (by decide)]; decide)) (lv_sub hl [1, 2, 0] rfl) hP hD hS
    · refine lv_iconst (v := 1) hx hb d_MO_payload_12 (by decide) ?_
      refine lv_goto (tgt := 32) hx hb d_MO_payload_13 (by decide) ?_
      refine va_put (D := (dC, dI)) (ci := 5) (v := .int (1 : Int32)) (ty := .int) (C := R_MO) (T := F_MO) (N := 17) hx hb hts in_MO t_MO t_MO_ok n_MO hown hK hP hD hS 0 rfl rfl 0 (by decide) (hts _ gw_518) (fun _ h9 => h9) rfl (by decide +kernel) rfl rfl (Nat.le_of_ble_eq_true rfl) d_MO_payload_32 (fun H locs hP hD hS => ?_)
      have hP : va_P (dC, dI) classes [(h, .inr (5, [.int (1 : Int32), .ref af, .ref ak, .ref ar, .ref ag, .int le, .int lo, .int da, .ref ad, .ref ac, .ref ab, .int si, .ref ax, .ref aw, .ref an, .ref av, .ref aa])), (ad, .inl (cI, 24, .inl dr))] H := hP
      have hD : va_D A [(h, .inr (5, [.int (1 : Int32), .ref af, .ref ak, .ref ar, .ref ag, .int le, .int lo, .int da, .ref ad, .ref ac, .ref ab, .int si, .ref ax, .ref aw, .ref an, .ref av, .ref aa])), (ad, .inl (cI, 24, .inl dr))] := hD
      refine lv_iload_n hx hb d_MO_payload_35 rfl (lv_at hl 2 rfl) ?_
      refine lv_iconst (v := 1) hx hb d_MO_payload_36 (by decide) ?_
      refine lv_isub hx hb d_MO_payload_37 ?_
      refine lv_istore (lv' := [(4, .int (n0 - (1 : Int32))), (0, .ref h), (1, .long bb), (3, .int n0)]) hx hb d_MO_payload_38 hl (by decide) rfl (fun ls hl => ?_)
      have e0 : (f_MO_payload bb n0 th le lo da si dr) = f_MO_payload_40 bb n0 th le lo da si dr 26 (n0 - (1 : Int32)) (1 : Int32) da dr := by rw [f_MO_payload, if_neg h6, if_neg h7]
      rw [e0]
      exact lp_40 26 (n0 - (1 : Int32)) (1 : Int32) da dr _ _ ls (by first | exact pl_entry hda (by assumption) (by assumption) (by assumption) | exact ⟨hda.1, fun h => absurd h (by decide)⟩) (by first | exact pl_ms (pl_entry hda (by assumption) (by assumption) (by assumption)) | (rw [if_neg (by decide)]; decide)) (lv_sub hl [1, 2, 0] rfl) hP hD hS
-- MO_addBody
theorem d_MO_addBody_0 : decode prog_8_method_24_code 0 = .ok (.aload_n 0, 1) := by decide +kernel
theorem d_MO_addBody_1 : decode prog_8_method_24_code 1 = .ok (.ldc_w 284, 3) := by decide +kernel
theorem d_MO_addBody_4 : decode prog_8_method_24_code 4 = .ok (.iload_n 1, 1) := by decide +kernel
theorem d_MO_addBody_5 : decode prog_8_method_24_code 5 = .ok (.imul, 1) := by decide +kernel
theorem d_MO_addBody_6 : decode prog_8_method_24_code 6 = .ok (.sipush 256, 3) := by decide +kernel
theorem d_MO_addBody_9 : decode prog_8_method_24_code 9 = .ok (.iload_n 2, 1) := by decide +kernel
theorem d_MO_addBody_10 : decode prog_8_method_24_code 10 = .ok (.imul, 1) := by decide +kernel
theorem d_MO_addBody_11 : decode prog_8_method_24_code 11 = .ok (.iadd, 1) := by decide +kernel
theorem d_MO_addBody_12 : decode prog_8_method_24_code 12 = .ok (.iload_n 3, 1) := by decide +kernel
theorem d_MO_addBody_13 : decode prog_8_method_24_code 13 = .ok (.iadd, 1) := by decide +kernel
theorem d_MO_addBody_14 : decode prog_8_method_24_code 14 = .ok (.invokevirtual 203, 3) := by decide +kernel
theorem d_MO_addBody_17 : decode prog_8_method_24_code 17 = .ok (.iconst 0, 1) := by decide +kernel
theorem d_MO_addBody_18 : decode prog_8_method_24_code 18 = .ok (.istore 4, 2) := by decide +kernel
theorem d_MO_addBody_20 : decode prog_8_method_24_code 20 = .ok (.iload 4, 2) := by decide +kernel
theorem d_MO_addBody_22 : decode prog_8_method_24_code 22 = .ok (.bipush 6, 2) := by decide +kernel
theorem d_MO_addBody_24 : decode prog_8_method_24_code 24 = .ok (.if_icmp .ge 67, 3) := by decide +kernel
theorem d_MO_addBody_27 : decode prog_8_method_24_code 27 = .ok (.iconst 0, 1) := by decide +kernel
theorem d_MO_addBody_28 : decode prog_8_method_24_code 28 = .ok (.istore 5, 2) := by decide +kernel
theorem d_MO_addBody_30 : decode prog_8_method_24_code 30 = .ok (.iconst 4, 1) := by decide +kernel
theorem d_MO_addBody_31 : decode prog_8_method_24_code 31 = .ok (.iload 4, 2) := by decide +kernel
theorem d_MO_addBody_33 : decode prog_8_method_24_code 33 = .ok (.imul, 1) := by decide +kernel
theorem d_MO_addBody_34 : decode prog_8_method_24_code 34 = .ok (.istore 6, 2) := by decide +kernel
theorem d_MO_addBody_36 : decode prog_8_method_24_code 36 = .ok (.iload 6, 2) := by decide +kernel
theorem d_MO_addBody_38 : decode prog_8_method_24_code 38 = .ok (.iconst 4, 1) := by decide +kernel
theorem d_MO_addBody_39 : decode prog_8_method_24_code 39 = .ok (.iload 4, 2) := by decide +kernel
theorem d_MO_addBody_41 : decode prog_8_method_24_code 41 = .ok (.imul, 1) := by decide +kernel
theorem d_MO_addBody_42 : decode prog_8_method_24_code 42 = .ok (.iconst 4, 1) := by decide +kernel
theorem d_MO_addBody_43 : decode prog_8_method_24_code 43 = .ok (.iadd, 1) := by decide +kernel
theorem d_MO_addBody_44 : decode prog_8_method_24_code 44 = .ok (.if_icmp .ge 35, 3) := by decide +kernel
theorem d_MO_addBody_47 : decode prog_8_method_24_code 47 = .ok (.sipush 256, 3) := by decide +kernel
theorem d_MO_addBody_50 : decode prog_8_method_24_code 50 = .ok (.iload 5, 2) := by decide +kernel
theorem d_MO_addBody_52 : decode prog_8_method_24_code 52 = .ok (.imul, 1) := by decide +kernel
theorem d_MO_addBody_53 : decode prog_8_method_24_code 53 = .ok (.iload 6, 2) := by decide +kernel
theorem d_MO_addBody_55 : decode prog_8_method_24_code 55 = .ok (.iload_n 3, 1) := by decide +kernel
theorem d_MO_addBody_56 : decode prog_8_method_24_code 56 = .ok (.if_icmp .ge 13, 3) := by decide +kernel
theorem d_MO_addBody_59 : decode prog_8_method_24_code 59 = .ok (.aload_n 0, 1) := by decide +kernel
theorem d_MO_addBody_60 : decode prog_8_method_24_code 60 = .ok (.getfield 26, 3) := by decide +kernel
theorem d_MO_addBody_63 : decode prog_8_method_24_code 63 = .ok (.iload 6, 2) := by decide +kernel
theorem d_MO_addBody_65 : decode prog_8_method_24_code 65 = .ok (.iaload, 1) := by decide +kernel
theorem d_MO_addBody_66 : decode prog_8_method_24_code 66 = .ok (.goto 4, 3) := by decide +kernel
theorem d_MO_addBody_69 : decode prog_8_method_24_code 69 = .ok (.iconst 0, 1) := by decide +kernel
theorem d_MO_addBody_70 : decode prog_8_method_24_code 70 = .ok (.iadd, 1) := by decide +kernel
theorem d_MO_addBody_71 : decode prog_8_method_24_code 71 = .ok (.istore 5, 2) := by decide +kernel
theorem d_MO_addBody_73 : decode prog_8_method_24_code 73 = .ok (.iinc 6 1, 3) := by decide +kernel
theorem d_MO_addBody_76 : decode prog_8_method_24_code 76 = .ok (.goto (-40), 3) := by decide +kernel
theorem d_MO_addBody_79 : decode prog_8_method_24_code 79 = .ok (.aload_n 0, 1) := by decide +kernel
theorem d_MO_addBody_80 : decode prog_8_method_24_code 80 = .ok (.iload 5, 2) := by decide +kernel
theorem d_MO_addBody_82 : decode prog_8_method_24_code 82 = .ok (.invokevirtual 203, 3) := by decide +kernel
theorem d_MO_addBody_85 : decode prog_8_method_24_code 85 = .ok (.iinc 4 1, 3) := by decide +kernel
theorem d_MO_addBody_88 : decode prog_8_method_24_code 88 = .ok (.goto (-68), 3) := by decide +kernel
theorem d_MO_addBody_91 : decode prog_8_method_24_code 91 = .ok (.return_, 1) := by decide +kernel
def y_MO_addBody : MethodName := ⟨"BootChainModel", "addBody", "(III)V"⟩
def ws_MO_addBody : List Cond := .code y_MO_addBody prog_8_method_24_code 7 none :: bc_G
def f_MO_addBody_36 (rec : Int32 → Int32 → (Nat → Int64) → Int32 × (Nat → Int64)) (sg : Int32) (ve : Int32) (n0 : Int32) (th : Int32) (le : Int32) (lo : Int32) (da : Int32) (si : Int32) (tx : Nat → Int64) (dr : Nat → Int32) : Nat → Int32 → Int32 → Int32 → Int32 → (Nat → Int64) → Int32 × (Nat → Int64)
  | 0, x4, x5, x6, y0_11, y1 => (y0_11, y1)
  | n2 + 1, x4, x5, x6, y0_11, y1 => if (((4 : Int32) * x4) + (4 : Int32)) ≤ x6 then rec (x4 + (1 : Int32)) ((f_MO_add x5 th le lo da y0_11 y1).1) ((f_MO_add x5 th le lo da y0_11 y1).2) else if n0 ≤ x6 then f_MO_addBody_36 rec sg ve n0 th le lo da si tx dr n2 x4 (((256 : Int32) * x5) + (0 : Int32)) (x6 + (1 : Int32)) y0_11 y1 else f_MO_addBody_36 rec sg ve n0 th le lo da si tx dr n2 x4 (((256 : Int32) * x5) + (dr (x6).toNatClampNeg)) (x6 + (1 : Int32)) y0_11 y1
def f_MO_addBody_20 (sg : Int32) (ve : Int32) (n0 : Int32) (th : Int32) (le : Int32) (lo : Int32) (da : Int32) (si : Int32) (tx : Nat → Int64) (dr : Nat → Int32) : Nat → Int32 → Int32 → (Nat → Int64) → Int32 × (Nat → Int64)
  | 0, x4, y0_11, y1 => (y0_11, y1)
  | n + 1, x4, y0_11, y1 => if (6 : Int32) ≤ x4 then (y0_11, y1) else f_MO_addBody_36 (f_MO_addBody_20 sg ve n0 th le lo da si tx dr n) sg ve n0 th le lo da si tx dr 5 x4 (0 : Int32) ((4 : Int32) * x4) y0_11 y1
def f_MO_addBody (sg : Int32) (ve : Int32) (n0 : Int32) (th : Int32) (le : Int32) (lo : Int32) (da : Int32) (si : Int32) (tx : Nat → Int64) (dr : Nat → Int32) : Int32 × (Nat → Int64) := f_MO_addBody_20 sg ve n0 th le lo da si tx dr 7 (0 : Int32) ((f_MO_add ((((65536 : Int32) * sg) + ((256 : Int32) * ve)) + n0) th le lo da si tx).1) ((f_MO_add ((((65536 : Int32) * sg) + ((256 : Int32) * ve)) + n0) th le lo da si tx).2)
set_option maxHeartbeats 4000000 in
set_option maxRecDepth 100000 in
theorem c_MO_addBody (l : Launch) (dC : Nat → ClassId) (dI : Nat → Nat → Nat) (cI cJ : ClassId) (h af ak ar ag ad ac ab ax aw an av aa : Nat) (sz : Nat) (sg : Int32) (ve : Int32) (n0 : Int32) (th : Int32) (le : Int32) (lo : Int32) (da : Int32) (si : Int32) (tx : Nat → Int64) (dr : Nat → Int32) (hsi7 : ad_ok si 7) : Met l y_MO_addBody ws_MO_addBody ({ frames := 1, cells := 0, slots := 0, locals := 21 } : Room) (va_Pc [.ref h, .int sg, .int ve, .int n0] (bc_pre (dC, dI) cI cJ [(h, .inr (5, [.int th, .ref af, .ref ak, .ref ar, .ref ag, .int le, .int lo, .int da, .ref ad, .ref ac, .ref ab, .int si, .ref ax, .ref aw, .ref an, .ref av, .ref aa])), (ax, .inl (cJ, 48, .inr (.inl tx))), (ad, .inl (cI, 24, .inl dr))] sz)) (va_Qv (fun (_ : Unit) => True) (fun _ => bc_post (dC, dI) cI cJ (va_A [(h, .inr (5, [.int th, .ref af, .ref ak, .ref ar, .ref ag, .int le, .int lo, .int da, .ref ad, .ref ac, .ref ab, .int si, .ref ax, .ref aw, .ref an, .ref av, .ref aa])), (ax, .inl (cJ, 48, .inr (.inl tx))), (ad, .inl (cI, 24, .inl dr))] sz) [(h, .inr (5, [.int th, .ref af, .ref ak, .ref ar, .ref ag, .int le, .int lo, .int da, .ref ad, .ref ac, .ref ab, .int (f_MO_addBody sg ve n0 th le lo da si tx dr).1, .ref ax, .ref aw, .ref an, .ref av, .ref aa])), (ax, .inl (cJ, 48, .inr (.inl (f_MO_addBody sg ve n0 th le lo da si tx dr).2))), (ad, .inl (cI, 24, .inl dr))]) (va_A [(h, .inr (5, [.int th, .ref af, .ref ak, .ref ar, .ref ag, .int le, .int lo, .int da, .ref ad, .ref ac, .ref ab, .int si, .ref ax, .ref aw, .ref an, .ref av, .ref aa])), (ax, .inl (cJ, 48, .inr (.inl tx))), (ad, .inl (cI, 24, .inl dr))] sz)) 0 0 (va_A [(h, .inr (5, [.int th, .ref af, .ref ak, .ref ar, .ref ag, .int le, .int lo, .int da, .ref ad, .ref ac, .ref ab, .int si, .ref ax, .ref aw, .ref an, .ref av, .ref aa])), (ax, .inl (cJ, 48, .inr (.inl tx))), (ad, .inl (cI, 24, .inl dr))] sz) := by
  refine Met.ofW (cc := prog_8_method_24_code) (maxL := 7) (ret := none) (by decide) rfl ?_
  intro p e s m args below meth c s₁ B hml hv
  obtain ⟨rfl, hsz, hP, hK, hD0, hE⟩ := hv
  have hx := B.exec
  have hb := B.bytes
  have hr := B.returns
  have hts : ∀ w ∈ bc_G, w.before ([.ref h, .int sg, .int ve, .int n0] : List Value).toArray s = true := fun w h => atoms_spec (ws := ws_MO_addBody) B.pre w (List.mem_cons_of_mem _ h)
  have hown : s.vm.findClass "BootChainModel" = some m.cls := findClass_of_methodNamed B.named
  have hlocks := B.notSynchronized
  subst hsz
  have hD := hD0.self (sz := s.heap.size)
  generalize hAe : va_A [(h, .inr (5, [.int th, .ref af, .ref ak, .ref ar, .ref ag, .int le, .int lo, .int da, .ref ad, .ref ac, .ref ab, .int si, .ref ax, .ref aw, .ref an, .ref av, .ref aa])), (ax, .inl (cJ, 48, .inr (.inl tx))), (ad, .inl (cI, 24, .inl dr))] s.heap.size = A at hD hE ⊢
  have hA : ∀ q : Nat, s.heap.size ≤ q → A q := fun q h => by rw [← hAe]; exact Or.inr h
  have hS : va_S A s.heap s.heap [] := va_S.rf
  have lp_20 : ∀ (n : Nat) (x4 : Int32) (y0_11 : Int32) (y1 : Nat → Int64) (H : Heap) (locs : List Loc) (ls : Array Slot), ad_inv 6 x4 y0_11 → ((6 : Int32).toInt - x4.toInt).toNat < n → lv_has ls 7 [(0, .ref h), (3, .int n0), (4, .int x4)] → va_P (dC, dI) classes [(h, .inr (5, [.int th, .ref af, .ref ak, .ref ar, .ref ag, .int le, .int lo, .int da, .ref ad, .ref ac, .ref ab, .int y0_11, .ref ax, .ref aw, .ref an, .ref av, .ref aa])), (ax, .inl (cJ, 48, .inr (.inl y1))), (ad, .inl (cI, 24, .inl dr))] H → va_D A [(h, .inr (5, [.int th, .ref af, .ref ak, .ref ar, .ref ag, .int le, .int lo, .int da, .ref ad, .ref ac, .ref ab, .int y0_11, .ref ax, .ref aw, .ref an, .ref av, .ref aa])), (ax, .inl (cJ, 48, .inr (.inl y1))), (ad, .inl (cI, 24, .inl dr))] → va_S A s.heap H locs → W p l e (headSpec ws_MO_addBody ({ frames := 1, cells := 0, slots := 0, locals := 21 } : Room)).room s m ([.ref h, .int sg, .int ve, .int n0] : List Value).toArray below meth c H locs 0 0 (MQ below (va_Qv (fun (_ : Unit) => True) (fun _ => bc_post (dC, dI) cI cJ A [(h, .inr (5, [.int th, .ref af, .ref ak, .ref ar, .ref ag, .int le, .int lo, .int da, .ref ad, .ref ac, .ref ab, .int (f_MO_addBody_20 sg ve n0 th le lo da si tx dr n x4 y0_11 y1).1, .ref ax, .ref aw, .ref an, .ref av, .ref aa])), (ax, .inl (cJ, 48, .inr (.inl (f_MO_addBody_20 sg ve n0 th le lo da si tx dr n x4 y0_11 y1).2))), (ad, .inl (cI, 24, .inl dr))]) A) ([.ref h, .int sg, .int ve, .int n0] : List Value).toArray s 0 0 A) (F0 m 20 ls []) := by
    intro n
    induction n with
    | zero => intro x4 y0_11 y1 H locs ls hI hm; exact absurd hm (Nat.not_lt_zero _)
    | succ n ih =>
      intro x4 y0_11 y1 H locs ls hI hm hl hP hD hS
      have lp_36 : ∀ (n2 : Nat) (x4 : Int32) (x5 : Int32) (x6 : Int32) (y0_11 : Int32) (y1 : Nat → Int64) (H : Heap) (locs : List Loc) (ls : Array Slot), ((ad_inv 6 x4 y0_11 ∧ (¬ 6 ≤ x4) ∧ ((6 : Int32).toInt - x4.toInt).toNat < n + 1 ∧ 0 ≤ x6) ∧ ((4 * x4 + 4).toInt - x6.toInt).toNat < n2) → lv_has ls 7 [(0, .ref h), (3, .int n0), (4, .int x4), (5, .int x5), (6, .int x6)] → va_P (dC, dI) classes [(h, .inr (5, [.int th, .ref af, .ref ak, .ref ar, .ref ag, .int le, .int lo, .int da, .ref ad, .ref ac, .ref ab, .int y0_11, .ref ax, .ref aw, .ref an, .ref av, .ref aa])), (ax, .inl (cJ, 48, .inr (.inl y1))), (ad, .inl (cI, 24, .inl dr))] H → va_D A [(h, .inr (5, [.int th, .ref af, .ref ak, .ref ar, .ref ag, .int le, .int lo, .int da, .ref ad, .ref ac, .ref ab, .int y0_11, .ref ax, .ref aw, .ref an, .ref av, .ref aa])), (ax, .inl (cJ, 48, .inr (.inl y1))), (ad, .inl (cI, 24, .inl dr))] → va_S A s.heap H locs → W p l e (headSpec ws_MO_addBody ({ frames := 1, cells := 0, slots := 0, locals := 21 } : Room)).room s m ([.ref h, .int sg, .int ve, .int n0] : List Value).toArray below meth c H locs 0 0 (MQ below (va_Qv (fun (_ : Unit) => True) (fun _ => bc_post (dC, dI) cI cJ A [(h, .inr (5, [.int th, .ref af, .ref ak, .ref ar, .ref ag, .int le, .int lo, .int da, .ref ad, .ref ac, .ref ab, .int (f_MO_addBody_36 (f_MO_addBody_20 sg ve n0 th le lo da si tx dr n) sg ve n0 th le lo da si tx dr n2 x4 x5 x6 y0_11 y1).1, .ref ax, .ref aw, .ref an, .ref av, .ref aa])), (ax, .inl (cJ, 48, .inr (.inl (f_MO_addBody_36 (f_MO_addBody_20 sg ve n0 th le lo da si tx dr n) sg ve n0 th le lo da si tx dr n2 x4 x5 x6 y0_11 y1).2))), (ad, .inl (cI, 24, .inl dr))]) A) ([.ref h, .int sg, .int ve, .int n0] : List Value).toArray s 0 0 A) (F0 m 36 ls []) := by
        intro n2
        induction n2 with
        | zero => intro x4 x5 x6 y0_11 y1 H locs ls hQ; exact absurd hQ.2 (Nat.not_lt_zero _)
        | succ n2 ih2 =>
          intro x4 x5 x6 y0_11 y1 H locs ls hQ hl hP hD hS
          obtain ⟨hQ, hm2⟩ := hQ
          obtain ⟨hI, hI6, hm, hk6⟩ := hQ
          refine lv_iload hx hb d_MO_addBody_36 (lv_at hl 4 rfl) ?_
          refine lv_iconst (v := 4) hx hb d_MO_addBody_38 (by decide) ?_
          refine lv_iload hx hb d_MO_addBody_39 (lv_at hl 2 rfl) ?_
          refine lv_imul hx hb d_MO_addBody_41 ?_
          refine lv_iconst (v := 4) hx hb d_MO_addBody_42 (by decide) ?_
          refine lv_iadd hx hb d_MO_addBody_43 ?_
          refine lv_icmp_ge (tgt := 79) hx hb d_MO_addBody_44 (by decide) (fun h5 => ?_) (fun h5 => ?_)
          · refine lv_aload_n hx hb d_MO_addBody_79 rfl (lv_at hl 0 rfl) ?_
            refine lv_iload hx hb d_MO_addBody_80 (lv_at hl 3 rfl) ?_
            have hPc := hP.sub (ws' := [(h, .inr (5, [.int th, .ref af, .ref ak, .ref ar, .ref ag, .int le, .int lo, .int da, .ref ad, .ref ac, .ref ab, .int y0_11, .ref ax, .ref aw, .ref an, .ref av, .ref aa])), (ax, .inl (cJ, 48, .inr (.inl y1)))]) [0, 1] rfl
            have hDc := hD.sub (ws' := [(h, .inr (5, [.int th, .ref af, .ref ak, .ref ar, .ref ag, .int le, .int lo, .int da, .ref ad, .ref ac, .ref ab, .int y0_11, .ref ax, .ref aw, .ref an, .ref av, .ref aa])), (ax, .inl (cJ, 48, .inr (.inl y1)))]) [0, 1] (by decide) rfl
            have hFc := va_free (wc := [(h, .inr (5, [.int th, .ref af, .ref ak, .ref ar, .ref ag, .int le, .int lo, .int da, .ref ad, .ref ac, .ref ab, .int y0_11, .ref ax, .ref aw, .ref an, .ref av, .ref aa])), (ax, .inl (cJ, 48, .inr (.inl y1)))]) hD hS hA [0, 1] rfl
            refine va_callv (va_runV (As := [.int x5]) (rest := []) ⟨hx, hb, hml, hown, hts⟩ (c_MO_add l dC dI cI cJ h af ak ar ag ad ac ab ax aw an av aa _ x5 th le lo da y0_11 y1 (ad_ix hI hI6)) ⟨callB_of 1 hts (bc_good gw_591) rfl rfl rfl (hts _ gw_6) (hts _ gw_589) (by decide +kernel) ⟨Nat.le_of_ble_eq_true rfl, Nat.le_of_ble_eq_true rfl⟩, (hts _ gw_590), (hts _ gw_711)⟩ ⟨bc_blind, va_recv (q0 := 0) hK hP (q := (R_MO, F_MO, 17)) rfl rfl, fun U hU hW => ⟨rfl, bc_give hPc hDc hK hE hS hFc U hU hW⟩⟩ rfl rfl hl.1 rfl (lv_room (Nat.le_of_ble_eq_true rfl)) d_MO_addBody_82 ⟨Nat.le_of_ble_eq_true rfl, Nat.le_of_ble_eq_true rfl⟩) hS (fun q _ h => hFc q h) hFc (fun u t H9 locs ht hvm hp hB hz1 hk1 hS => ?_)
            obtain ⟨hP, hD⟩ := va_join (wr := [(ad, .inl (cI, 24, .inl dr))]) (w1 := [(h, .inr (5, [.int th, .ref af, .ref ak, .ref ar, .ref ag, .int le, .int lo, .int da, .ref ad, .ref ac, .ref ab, .int ((f_MO_add x5 th le lo da y0_11 y1).1), .ref ax, .ref aw, .ref an, .ref av, .ref aa])), (ax, .inl (cJ, 48, .inr (.inl ((f_MO_add x5 th le lo da y0_11 y1).2))))]) hP hD [0, 1] [2] rfl rfl (by decide) (by decide) hk1 hFc (ht ▸ hB.1) hB.2.2
            have hP := hP.sub (ws' := [(h, .inr (5, [.int th, .ref af, .ref ak, .ref ar, .ref ag, .int le, .int lo, .int da, .ref ad, .ref ac, .ref ab, .int ((f_MO_add x5 th le lo da y0_11 y1).1), .ref ax, .ref aw, .ref an, .ref av, .ref aa])), (ax, .inl (cJ, 48, .inr (.inl ((f_MO_add x5 th le lo da y0_11 y1).2)))), (ad, .inl (cI, 24, .inl dr))]) [1, 2, 0] rfl
            have hD := hD.sub (ws' := [(h, .inr (5, [.int th, .ref af, .ref ak, .ref ar, .ref ag, .int le, .int lo, .int da, .ref ad, .ref ac, .ref ab, .int ((f_MO_add x5 th le lo da y0_11 y1).1), .ref ax, .ref aw, .ref an, .ref av, .ref aa])), (ax, .inl (cJ, 48, .inr (.inl ((f_MO_add x5 th le lo da y0_11 y1).2)))), (ad, .inl (cI, 24, .inl dr))]) [1, 2, 0] (by decide) rfl
            generalize H9 = H at hP hS ⊢
            refine lv_iinc (k := 2) (v := (x4 + (1 : Int32))) (lv' := [(4, .int (x4 + (1 : Int32))), (0, .ref h), (3, .int n0), (5, .int x5), (6, .int x6)]) hx hb d_MO_addBody_85 hl rfl rfl (by decide) rfl (fun ls hl => ?_)
            refine lv_goto (tgt := 20) hx hb d_MO_addBody_88 (by decide) ?_
            have e0 : (f_MO_addBody_36 (f_MO_addBody_20 sg ve n0 th le lo da si tx dr n) sg ve n0 th le lo da si tx dr (n2 + 1) x4 x5 x6 y0_11 y1) = f_MO_addBody_20 sg ve n0 th le lo da si tx dr n (x4 + (1 : Int32)) ((f_MO_add x5 th le lo da y0_11 y1).1) ((f_MO_add x5 th le lo da y0_11 y1).2) := by rw [f_MO_addBody_36, if_pos h5]
            rw [e0]
            exact ih (x4 + (1 : Int32)) ((f_MO_add x5 th le lo da y0_11 y1).1) ((f_MO_add x5 th le lo da y0_11 y1).2) _ _ ls (ad_step hI (by assumption)) (lp_ms hI.1 (by assumption) hm) (lv_sub hl [1, 2, 0] rfl) hP hD hS
          · refine lv_sipush (v := 256) hx hb d_MO_addBody_47 (by decide) ?_
            refine lv_iload hx hb d_MO_addBody_50 (lv_at hl 3 rfl) ?_
            refine lv_imul hx hb d_MO_addBody_52 ?_
            refine lv_iload hx hb d_MO_addBody_53 (lv_at hl 4 rfl) ?_
            refine lv_iload_n hx hb d_MO_addBody_55 rfl (lv_at hl 1 rfl) ?_
            refine lv_icmp_ge (tgt := 69) hx hb d_MO_addBody_56 (by decide) (fun h6 => ?_) (fun h6 => ?_)
            · refine lv_iconst (v := 0) hx hb d_MO_addBody_69 (by decide) ?_
              refine lv_iadd hx hb d_MO_addBody_70 ?_
              refine lv_istore (lv' := [(5, .int (((256 : Int32) * x5) + (0 : Int32))), (0, .ref h), (3, .int n0), (4, .int x4), (6, .int x6)]) hx hb d_MO_addBody_71 hl (by decide) rfl (fun ls hl => ?_)
              refine lv_iinc (k := 4) (v := (x6 + (1 : Int32))) (lv' := [(6, .int (x6 + (1 : Int32))), (5, .int (((256 : Int32) * x5) + (0 : Int32))), (0, .ref h), (3, .int n0), (4, .int x4)]) hx hb d_MO_addBody_73 hl rfl rfl (by decide) rfl (fun ls hl => ?_)
              refine lv_goto (tgt := 36) hx hb d_MO_addBody_76 (by decide) ?_
              have e0 : (f_MO_addBody_36 (f_MO_addBody_20 sg ve n0 th le lo da si tx dr n) sg ve n0 th le lo da si tx dr (n2 + 1) x4 x5 x6 y0_11 y1) = f_MO_addBody_36 (f_MO_addBody_20 sg ve n0 th le lo da si tx dr n) sg ve n0 th le lo da si tx dr n2 x4 (((256 : Int32) * x5) + (0 : Int32)) (x6 + (1 : Int32)) y0_11 y1 := by rw [f_MO_addBody_36, if_neg h5, if_pos h6]
              rw [e0]
              exact ih2 x4 (((256 : Int32) * x5) + (0 : Int32)) (x6 + (1 : Int32)) y0_11 y1 _ _ ls ⟨⟨hI, hI6, hm, (lp_up hk6 (by assumption)).1.1⟩, (lp_ms hk6 (by assumption) hm2)⟩ (lv_sub hl [2, 3, 4, 1, 0] rfl) hP hD hS
            · refine lv_aload_n hx hb d_MO_addBody_59 rfl (lv_at hl 0 rfl) ?_
              refine va_get (D := (dC, dI)) (ci := 5) (v := .ref ad) (C := R_MO) (T := F_MO) (N := 17) hx hb hts in_MO hown hK hP 0 rfl rfl 8 (by decide) (hts _ gw_526) (fun _ h9 => h9) rfl d_MO_addBody_60 ?_
              refine lv_iload hx hb d_MO_addBody_63 (lv_at hl 4 rfl) ?_
              refine va_iald hx hb hK hP 2 0 rfl rfl (by exact ab_ix hI hI6 hk6 (by assumption)) d_MO_addBody_65 ?_
              refine lv_goto (tgt := 70) hx hb d_MO_addBody_66 (by decide) ?_
              refine lv_iadd hx hb d_MO_addBody_70 ?_
              refine lv_istore (lv' := [(5, .int (((256 : Int32) * x5) + (dr (x6).toNatClampNeg))), (0, .ref h), (3, .int n0), (4, .int x4), (6, .int x6)]) hx hb d_MO_addBody_71 hl (by decide) rfl (fun ls hl => ?_)
              refine lv_iinc (k := 4) (v := (x6 + (1 : Int32))) (lv' := [(6, .int (x6 + (1 : Int32))), (5, .int (((256 : Int32) * x5) + (dr (x6).toNatClampNeg))), (0, .ref h), (3, .int n0), (4, .int x4)]) hx hb d_MO_addBody_73 hl rfl rfl (by decide) rfl (fun ls hl => ?_)
              refine lv_goto (tgt := 36) hx hb d_MO_addBody_76 (by decide) ?_
              have e0 : (f_MO_addBody_36 (f_MO_addBody_20 sg ve n0 th le lo da si tx dr n) sg ve n0 th le lo da si tx dr (n2 + 1) x4 x5 x6 y0_11 y1) = f_MO_addBody_36 (f_MO_addBody_20 sg ve n0 th le lo da si tx dr n) sg ve n0 th le lo da si tx dr n2 x4 (((256 : Int32) * x5) + (dr (x6).toNatClampNeg)) (x6 + (1 : Int32)) y0_11 y1 := by rw [f_MO_addBody_36, if_neg h5, if_neg h6]
              rw [e0]
              exact ih2 x4 (((256 : Int32) * x5) + (dr (x6).toNatClampNeg)) (x6 + (1 : Int32)) y0_11 y1 _ _ ls ⟨⟨hI, hI6, hm, (lp_up hk6 (by assumption)).1.1⟩, (lp_ms hk6 (by assumption) hm2)⟩ (lv_sub hl [2, 3, 4, 1, 0] rfl) hP hD hS
      refine lv_iload hx hb d_MO_addBody_20 (lv_at hl 2 rfl) ?_
      refine lv_bipush (v := 6) hx hb d_MO_addBody_22 (by decide) ?_
      refine lv_icmp_ge (tgt := 91) hx hb d_MO_addBody_24 (by decide) (fun h4 => ?_) (fun h4 => ?_)
      · have e0 : (f_MO_addBody_20 sg ve n0 th le lo da si tx dr (n + 1) x4 y0_11 y1) = (y0_11, y1) := by rw [f_MO_addBody_20, if_pos h4]
        rw [e0]
        exact W.vret hx hb hr (fun t ht hW => ⟨⟨(), rfl, trivial, by rw [ht]; exact hP, va_K.moved hW.alike hK, hD⟩, hS.F ht⟩) hS.2.2 d_MO_addBody_91
      · refine lv_iconst (v := 0) hx hb d_MO_addBody_27 (by decide) ?_
        refine lv_istore (lv' := [(5, .int (0 : Int32)), (0, .ref h), (3, .int n0), (4, .int x4)]) hx hb d_MO_addBody_28 hl (by decide) rfl (fun ls hl => ?_)
        refine lv_iconst (v := 4) hx hb d_MO_addBody_30 (by decide) ?_
        refine lv_iload hx hb d_MO_addBody_31 (lv_at hl 3 rfl) ?_
        refine lv_imul hx hb d_MO_addBody_33 ?_
        refine lv_istore (lv' := [(6, .int ((4 : Int32) * x4)), (5, .int (0 : Int32)), (0, .ref h), (3, .int n0), (4, .int x4)]) hx hb d_MO_addBody_34 hl (by decide) rfl (fun ls hl => ?_)
        have e0 : (f_MO_addBody_20 sg ve n0 th le lo da si tx dr (n + 1) x4 y0_11 y1) = f_MO_addBody_36 (f_MO_addBody_20 sg ve n0 th le lo da si tx dr n) sg ve n0 th le lo da si tx dr 5 x4 (0 : Int32) ((4 : Int32) * x4) y0_11 y1 := by rw [f_MO_addBody_20, if_neg h4]
        rw [e0]
        exact lp_36 5 x4 (0 : Int32) ((4 : Int32) * x4) y0_11 y1 _ _ ls ⟨⟨hI, by assumption, hm, ab_k hI (by assumption)⟩, (ab_ms hI (by assumption))⟩ (lv_sub hl [2, 3, 4, 1, 0] rfl) hP hD hS
  have hl := lv_entry ([.ref h, .int sg, .int ve, .int n0]) (n := 7) (Nat.le_of_ble_eq_true rfl)
  rw [lg_entry_eq]
  generalize (lg_sl ([.ref h, .int sg, .int ve, .int n0]) ++ List.replicate (7 - (lg_sl ([.ref h, .int sg, .int ve, .int n0])).length) Slot.unset).toArray = ls at hl ⊢
  have hl : lv_has ls 7 [(0, .ref h), (1, .int sg), (2, .int ve), (3, .int n0)] := hl
  refine lv_aload_n hx hb d_MO_addBody_0 rfl (lv_at hl 0 rfl) ?_
  refine lv_ldcw (v := 65536) hx hb hown (hts _ gw_595) d_MO_addBody_1 ?_
  refine lv_iload_n hx hb d_MO_addBody_4 rfl (lv_at hl 1 rfl) ?_
  refine lv_imul hx hb d_MO_addBody_5 ?_
  refine lv_sipush (v := 256) hx hb d_MO_addBody_6 (by decide) ?_
  refine lv_iload_n hx hb d_MO_addBody_9 rfl (lv_at hl 2 rfl) ?_
  refine lv_imul hx hb d_MO_addBody_10 ?_
  refine lv_iadd hx hb d_MO_addBody_11 ?_
  refine lv_iload_n hx hb d_MO_addBody_12 rfl (lv_at hl 3 rfl) ?_
  refine lv_iadd hx hb d_MO_addBody_13 ?_
  have hPc := hP.sub (ws' := [(h, .inr (5, [.int th, .ref af, .ref ak, .ref ar, .ref ag, .int le, .int lo, .int da, .ref ad, .ref ac, .ref ab, .int si, .ref ax, .ref aw, .ref an, .ref av, .ref aa])), (ax, .inl (cJ, 48, .inr (.inl tx)))]) [0, 1] rfl
  have hDc := hD.sub (ws' := [(h, .inr (5, [.int th, .ref af, .ref ak, .ref ar, .ref ag, .int le, .int lo, .int da, .ref ad, .ref ac, .ref ab, .int si, .ref ax, .ref aw, .ref an, .ref av, .ref aa])), (ax, .inl (cJ, 48, .inr (.inl tx)))]) [0, 1] (by decide) rfl
  have hFc := va_free (wc := [(h, .inr (5, [.int th, .ref af, .ref ak, .ref ar, .ref ag, .int le, .int lo, .int da, .ref ad, .ref ac, .ref ab, .int si, .ref ax, .ref aw, .ref an, .ref av, .ref aa])), (ax, .inl (cJ, 48, .inr (.inl tx)))]) hD hS hA [0, 1] rfl
  refine va_callv (va_runV (As := [.int ((((65536 : Int32) * sg) + ((256 : Int32) * ve)) + n0)]) (rest := []) ⟨hx, hb, hml, hown, hts⟩ (c_MO_add l dC dI cI cJ h af ak ar ag ad ac ab ax aw an av aa _ ((((65536 : Int32) * sg) + ((256 : Int32) * ve)) + n0) th le lo da si tx (ad_ix0 hsi7)) ⟨callB_of 1 hts (bc_good gw_591) rfl rfl rfl (hts _ gw_6) (hts _ gw_589) (by decide +kernel) ⟨Nat.le_of_ble_eq_true rfl, Nat.le_of_ble_eq_true rfl⟩, (hts _ gw_590), (hts _ gw_711)⟩ ⟨bc_blind, va_recv (q0 := 0) hK hP (q := (R_MO, F_MO, 17)) rfl rfl, fun U hU hW => ⟨rfl, bc_give hPc hDc hK hE hS hFc U hU hW⟩⟩ rfl rfl hl.1 rfl (lv_room (Nat.le_of_ble_eq_true rfl)) d_MO_addBody_14 ⟨Nat.le_of_ble_eq_true rfl, Nat.le_of_ble_eq_true rfl⟩) hS (fun q _ h => hFc q h) hFc (fun u t H9 locs ht hvm hp hB hz1 hk1 hS => ?_)
  obtain ⟨hP, hD⟩ := va_join (wr := [(ad, .inl (cI, 24, .inl dr))]) (w1 := [(h, .inr (5, [.int th, .ref af, .ref ak, .ref ar, .ref ag, .int le, .int lo, .int da, .ref ad, .ref ac, .ref ab, .int ((f_MO_add ((((65536 : Int32) * sg) + ((256 : Int32) * ve)) + n0) th le lo da si tx).1), .ref ax, .ref aw, .ref an, .ref av, .ref aa])), (ax, .inl (cJ, 48, .inr (.inl ((f_MO_add ((((65536 : Int32) * sg) + ((256 : Int32) * ve)) + n0) th le lo da si tx).2))))]) hP hD [0, 1] [2] rfl rfl (by decide) (by decide) hk1 hFc (ht ▸ hB.1) hB.2.2
  have hP := hP.sub (ws' := [(h, .inr (5, [.int th, .ref af, .ref ak, .ref ar, .ref ag, .int le, .int lo, .int da, .ref ad, .ref ac, .ref ab, .int ((f_MO_add ((((65536 : Int32) * sg) + ((256 : Int32) * ve)) + n0) th le lo da si tx).1), .ref ax, .ref aw, .ref an, .ref av, .ref aa])), (ax, .inl (cJ, 48, .inr (.inl ((f_MO_add ((((65536 : Int32) * sg) + ((256 : Int32) * ve)) + n0) th le lo da si tx).2)))), (ad, .inl (cI, 24, .inl dr))]) [1, 2, 0] rfl
  have hD := hD.sub (ws' := [(h, .inr (5, [.int th, .ref af, .ref ak, .ref ar, .ref ag, .int le, .int lo, .int da, .ref ad, .ref ac, .ref ab, .int ((f_MO_add ((((65536 : Int32) * sg) + ((256 : Int32) * ve)) + n0) th le lo da si tx).1), .ref ax, .ref aw, .ref an, .ref av, .ref aa])), (ax, .inl (cJ, 48, .inr (.inl ((f_MO_add ((((65536 : Int32) * sg) + ((256 : Int32) * ve)) + n0) th le lo da si tx).2)))), (ad, .inl (cI, 24, .inl dr))]) [1, 2, 0] (by decide) rfl
  generalize H9 = H at hP hS ⊢
  refine lv_iconst (v := 0) hx hb d_MO_addBody_17 (by decide) ?_
  refine lv_istore (lv' := [(4, .int (0 : Int32)), (0, .ref h), (1, .int sg), (2, .int ve), (3, .int n0)]) hx hb d_MO_addBody_18 hl (by decide) rfl (fun ls hl => ?_)
  have e0 : (f_MO_addBody sg ve n0 th le lo da si tx dr) = f_MO_addBody_20 sg ve n0 th le lo da si tx dr 7 (0 : Int32) ((f_MO_add ((((65536 : Int32) * sg) + ((256 : Int32) * ve)) + n0) th le lo da si tx).1) ((f_MO_add ((((65536 : Int32) * sg) + ((256 : Int32) * ve)) + n0) th le lo da si tx).2) := by rw [f_MO_addBody]
  rw [e0]
  exact lp_20 7 (0 : Int32) ((f_MO_add ((((65536 : Int32) * sg) + ((256 : Int32) * ve)) + n0) th le lo da si tx).1) ((f_MO_add ((((65536 : Int32) * sg) + ((256 : Int32) * ve)) + n0) th le lo da si tx).2) _ _ ls (ad_e7 hsi7) (by decide) (lv_sub hl [1, 4, 0] rfl) hP hD hS
-- MO_spoil
theorem d_MO_spoil_0 : decode prog_8_method_33_code 0 = .ok (.iload_n 1, 1) := by decide +kernel
theorem d_MO_spoil_1 : decode prog_8_method_33_code 1 = .ok (.iload_n 2, 1) := by decide +kernel
theorem d_MO_spoil_2 : decode prog_8_method_33_code 2 = .ok (.invokestatic 298, 3) := by decide +kernel
theorem d_MO_spoil_5 : decode prog_8_method_33_code 5 = .ok (.istore 4, 2) := by decide +kernel
theorem d_MO_spoil_7 : decode prog_8_method_33_code 7 = .ok (.aload_n 0, 1) := by decide +kernel
theorem d_MO_spoil_8 : decode prog_8_method_33_code 8 = .ok (.iload 4, 2) := by decide +kernel
theorem d_MO_spoil_10 : decode prog_8_method_33_code 10 = .ok (.ifCond .ge 7, 3) := by decide +kernel
theorem d_MO_spoil_13 : decode prog_8_method_33_code 13 = .ok (.iconst 1, 1) := by decide +kernel
theorem d_MO_spoil_14 : decode prog_8_method_33_code 14 = .ok (.goto 4, 3) := by decide +kernel
theorem d_MO_spoil_17 : decode prog_8_method_33_code 17 = .ok (.iconst 0, 1) := by decide +kernel
theorem d_MO_spoil_18 : decode prog_8_method_33_code 18 = .ok (.putfield 195, 3) := by decide +kernel
theorem d_MO_spoil_21 : decode prog_8_method_33_code 21 = .ok (.aload_n 0, 1) := by decide +kernel
theorem d_MO_spoil_22 : decode prog_8_method_33_code 22 = .ok (.getfield 195, 3) := by decide +kernel
theorem d_MO_spoil_25 : decode prog_8_method_33_code 25 = .ok (.ifCond .ne 19, 3) := by decide +kernel
theorem d_MO_spoil_28 : decode prog_8_method_33_code 28 = .ok (.aload_n 0, 1) := by decide +kernel
theorem d_MO_spoil_29 : decode prog_8_method_33_code 29 = .ok (.getfield 7, 3) := by decide +kernel
theorem d_MO_spoil_32 : decode prog_8_method_33_code 32 = .ok (.iload 4, 2) := by decide +kernel
theorem d_MO_spoil_34 : decode prog_8_method_33_code 34 = .ok (.aload_n 0, 1) := by decide +kernel
theorem d_MO_spoil_35 : decode prog_8_method_33_code 35 = .ok (.getfield 7, 3) := by decide +kernel
theorem d_MO_spoil_38 : decode prog_8_method_33_code 38 = .ok (.iload 4, 2) := by decide +kernel
theorem d_MO_spoil_40 : decode prog_8_method_33_code 40 = .ok (.iaload, 1) := by decide +kernel
theorem d_MO_spoil_41 : decode prog_8_method_33_code 41 = .ok (.iload_n 3, 1) := by decide +kernel
theorem d_MO_spoil_42 : decode prog_8_method_33_code 42 = .ok (.ixor, 1) := by decide +kernel
theorem d_MO_spoil_43 : decode prog_8_method_33_code 43 = .ok (.iastore, 1) := by decide +kernel
theorem d_MO_spoil_44 : decode prog_8_method_33_code 44 = .ok (.return_, 1) := by decide +kernel
def y_MO_spoil : MethodName := ⟨"BootChainModel", "spoil", "(III)V"⟩
def ws_MO_spoil : List Cond := .code y_MO_spoil prog_8_method_33_code 5 none :: bc_G
def f_MO_spoil (pl : Int32) (wd : Int32) (bi : Int32) (th : Int32) (le : Int32) (lo : Int32) (da : Int32) (si : Int32) (fl : Nat → Int32) : Int32 × (Nat → Int32) := if 0 ≤ (f_MO_placeOf pl wd) then if (0 : Int32) = 0 then ((0 : Int32), (upd fl ((f_MO_placeOf pl wd)).toNatClampNeg ((fl ((f_MO_placeOf pl wd)).toNatClampNeg) ^^^ bi))) else ((0 : Int32), fl) else if (1 : Int32) = 0 then ((1 : Int32), (upd fl ((f_MO_placeOf pl wd)).toNatClampNeg ((fl ((f_MO_placeOf pl wd)).toNatClampNeg) ^^^ bi))) else ((1 : Int32), fl)
set_option maxHeartbeats 4000000 in
set_option maxRecDepth 100000 in
theorem c_MO_spoil (l : Launch) (dC : Nat → ClassId) (dI : Nat → Nat → Nat) (cI cJ : ClassId) (h af ak ar ag ad ac ab ax aw an av aa : Nat) (sz : Nat) (pl : Int32) (wd : Int32) (bi : Int32) (th : Int32) (le : Int32) (lo : Int32) (da : Int32) (si : Int32) (fl : Nat → Int32) : Met l y_MO_spoil ws_MO_spoil ({ frames := 2, cells := 0, slots := 0, locals := 42 } : Room) (va_Pc [.ref h, .int pl, .int wd, .int bi] (bc_pre (dC, dI) cI cJ [(h, .inr (5, [.int th, .ref af, .ref ak, .ref ar, .ref ag, .int le, .int lo, .int da, .ref ad, .ref ac, .ref ab, .int si, .ref ax, .ref aw, .ref an, .ref av, .ref aa])), (af, .inl (cI, 70, .inl fl))] sz)) (va_Qv (fun (_ : Unit) => True) (fun _ => bc_post (dC, dI) cI cJ (va_A [(h, .inr (5, [.int th, .ref af, .ref ak, .ref ar, .ref ag, .int le, .int lo, .int da, .ref ad, .ref ac, .ref ab, .int si, .ref ax, .ref aw, .ref an, .ref av, .ref aa])), (af, .inl (cI, 70, .inl fl))] sz) [(h, .inr (5, [.int (f_MO_spoil pl wd bi th le lo da si fl).1, .ref af, .ref ak, .ref ar, .ref ag, .int le, .int lo, .int da, .ref ad, .ref ac, .ref ab, .int si, .ref ax, .ref aw, .ref an, .ref av, .ref aa])), (af, .inl (cI, 70, .inl (f_MO_spoil pl wd bi th le lo da si fl).2))]) (va_A [(h, .inr (5, [.int th, .ref af, .ref ak, .ref ar, .ref ag, .int le, .int lo, .int da, .ref ad, .ref ac, .ref ab, .int si, .ref ax, .ref aw, .ref an, .ref av, .ref aa])), (af, .inl (cI, 70, .inl fl))] sz)) 0 0 (va_A [(h, .inr (5, [.int th, .ref af, .ref ak, .ref ar, .ref ag, .int le, .int lo, .int da, .ref ad, .ref ac, .ref ab, .int si, .ref ax, .ref aw, .ref an, .ref av, .ref aa])), (af, .inl (cI, 70, .inl fl))] sz) := by
  refine Met.ofW (cc := prog_8_method_33_code) (maxL := 5) (ret := none) (by decide) rfl ?_
  intro p e s m args below meth c s₁ B hml hv
  obtain ⟨rfl, hsz, hP, hK, hD0, hE⟩ := hv
  have hx := B.exec
  have hb := B.bytes
  have hr := B.returns
  have hts : ∀ w ∈ bc_G, w.before ([.ref h, .int pl, .int wd, .int bi] : List Value).toArray s = true := fun w h => atoms_spec (ws := ws_MO_spoil) B.pre w (List.mem_cons_of_mem _ h)
  have hown : s.vm.findClass "BootChainModel" = some m.cls := findClass_of_methodNamed B.named
  have hlocks := B.notSynchronized
  subst hsz
  have hD := hD0.self (sz := s.heap.size)
  generalize hAe : va_A [(h, .inr (5, [.int th, .ref af, .ref ak, .ref ar, .ref ag, .int le, .int lo, .int da, .ref ad, .ref ac, .ref ab, .int si, .ref ax, .ref aw, .ref an, .ref av, .ref aa])), (af, .inl (cI, 70, .inl fl))] s.heap.size = A at hD hE ⊢
  have hA : ∀ q : Nat, s.heap.size ≤ q → A q := fun q h => by rw [← hAe]; exact Or.inr h
  have hS : va_S A s.heap s.heap [] := va_S.rf
  have hl := lv_entry ([.ref h, .int pl, .int wd, .int bi]) (n := 5) (Nat.le_of_ble_eq_true rfl)
  rw [lg_entry_eq]
  generalize (lg_sl ([.ref h, .int pl, .int wd, .int bi]) ++ List.replicate (5 - (lg_sl ([.ref h, .int pl, .int wd, .int bi])).length) Slot.unset).toArray = ls at hl ⊢
  have hl : lv_has ls 5 [(0, .ref h), (1, .int pl), (2, .int wd), (3, .int bi)] := hl
  refine lv_iload_n hx hb d_MO_spoil_0 rfl (lv_at hl 1 rfl) ?_
  refine lv_iload_n hx hb d_MO_spoil_1 rfl (lv_at hl 2 rfl) ?_
  have hPc := hP.sub (ws' := []) [] rfl
  have hDc := hD.sub (ws' := []) [] (by decide) rfl
  have hFc := va_free (wc := []) hD hS hA [] rfl
  refine va_calli (va_runS (As := [.int pl, .int wd]) (rest := []) ⟨hx, hb, hml, hown, hts⟩ (c_MO_placeOf l dC dI cI cJ _ pl wd) ⟨callB_of 2 hts (bc_good gw_663) rfl rfl rfl (hts _ gw_6) (hts _ gw_661) (by decide +kernel) ⟨Nat.le_of_ble_eq_true rfl, Nat.le_of_ble_eq_true rfl⟩, (hts _ gw_662)⟩ ⟨bc_blind, fun U hU hW => ⟨rfl, bc_give hPc hDc hK hE hS hFc U hU hW⟩⟩ rfl rfl hl.1 rfl (lv_room (Nat.le_of_ble_eq_true rfl)) d_MO_spoil_2 ⟨Nat.le_of_ble_eq_true rfl, Nat.le_of_ble_eq_true rfl⟩) hS (fun q _ h => hFc q h) hFc (fun r u t H9 locs ht hvm hp hB hz1 hk1 hS => ?_)
  subst hp
  obtain ⟨hP, hD⟩ := va_join (wr := [(h, .inr (5, [.int th, .ref af, .ref ak, .ref ar, .ref ag, .int le, .int lo, .int da, .ref ad, .ref ac, .ref ab, .int si, .ref ax, .ref aw, .ref an, .ref av, .ref aa])), (af, .inl (cI, 70, .inl fl))]) (w1 := []) hP hD [] [0, 1] rfl rfl (by decide) (by decide) hk1 hFc (ht ▸ hB.1) hB.2.2
  have hP := hP.sub (ws' := [(h, .inr (5, [.int th, .ref af, .ref ak, .ref ar, .ref ag, .int le, .int lo, .int da, .ref ad, .ref ac, .ref ab, .int si, .ref ax, .ref aw, .ref an, .ref av, .ref aa])), (af, .inl (cI, 70, .inl fl))]) [0, 1] rfl
  have hD := hD.sub (ws' := [(h, .inr (5, [.int th, .ref af, .ref ak, .ref ar, .ref ag, .int le, .int lo, .int da, .ref ad, .ref ac, .ref ab, .int si, .ref ax, .ref aw, .ref an, .ref av, .ref aa])), (af, .inl (cI, 70, .inl fl))]) [0, 1] (by decide) rfl
  generalize H9 = H at hP hS ⊢
  refine lv_istore (lv' := [(4, .int (f_MO_placeOf pl wd)), (0, .ref h), (1, .int pl), (2, .int wd), (3, .int bi)]) hx hb d_MO_spoil_5 hl (by decide) rfl (fun ls hl => ?_)
  refine lv_aload_n hx hb d_MO_spoil_7 rfl (lv_at hl 1 rfl) ?_
  refine lv_iload hx hb d_MO_spoil_8 (lv_at hl 0 rfl) ?_
  refine lv_if_ge (tgt := 17) hx hb d_MO_spoil_10 (by decide) (fun h4 => ?_) (fun h4 => ?_)
  · refine lv_iconst (v := 0) hx hb d_MO_spoil_17 (by decide) ?_
    refine va_put (D := (dC, dI)) (ci := 5) (v := .int (0 : Int32)) (ty := .int) (C := R_MO) (T := F_MO) (N := 17) hx hb hts in_MO t_MO t_MO_ok n_MO hown hK hP hD hS 0 rfl rfl 0 (by decide) (hts _ gw_518) (fun _ h9 => h9) rfl (by decide +kernel) rfl rfl (Nat.le_of_ble_eq_true rfl) d_MO_spoil_18 (fun H locs hP hD hS => ?_)
    have hP : va_P (dC, dI) classes [(h, .inr (5, [.int (0 : Int32), .ref af, .ref ak, .ref ar, .ref ag, .int le, .int lo, .int da, .ref ad, .ref ac, .ref ab, .int si, .ref ax, .ref aw, .ref an, .ref av, .ref aa])), (af, .inl (cI, 70, .inl fl))] H := hP
    have hD : va_D A [(h, .inr (5, [.int (0 : Int32), .ref af, .ref ak, .ref ar, .ref ag, .int le, .int lo, .int da, .ref ad, .ref ac, .ref ab, .int si, .ref ax, .ref aw, .ref an, .ref av, .ref aa])), (af, .inl (cI, 70, .inl fl))] := hD
    refine lv_aload_n hx hb d_MO_spoil_21 rfl (lv_at hl 1 rfl) ?_
    refine va_get (D := (dC, dI)) (ci := 5) (v := .int (0 : Int32)) (C := R_MO) (T := F_MO) (N := 17) hx hb hts in_MO hown hK hP 0 rfl rfl 0 (by decide) (hts _ gw_518) (fun _ h9 => h9) rfl d_MO_spoil_22 ?_
    refine lv_if_ne (tgt := 44) hx hb d_MO_spoil_25 (by decide) (fun h5 => ?_) (fun h5 => ?_)
    · have e0 : (f_MO_spoil pl wd bi th le lo da si fl) = ((0 : Int32), fl) := by rw [f_MO_spoil, if_pos h4, if_neg h5]
      rw [e0]
      exact W.vret hx hb hr (fun t ht hW => ⟨⟨(), rfl, trivial, by rw [ht]; exact hP, va_K.moved hW.alike hK, hD⟩, hS.F ht⟩) hS.2.2 d_MO_spoil_44
    · refine lv_aload_n hx hb d_MO_spoil_28 rfl (lv_at hl 1 rfl) ?_
      refine va_get (D := (dC, dI)) (ci := 5) (v := .ref af) (C := R_MO) (T := F_MO) (N := 17) hx hb hts in_MO hown hK hP 0 rfl rfl 1 (by decide) (hts _ gw_519) (fun _ h9 => h9) rfl d_MO_spoil_29 ?_
      refine lv_iload hx hb d_MO_spoil_32 (lv_at hl 0 rfl) ?_
      refine lv_aload_n hx hb d_MO_spoil_34 rfl (lv_at hl 1 rfl) ?_
      refine va_get (D := (dC, dI)) (ci := 5) (v := .ref af) (C := R_MO) (T := F_MO) (N := 17) hx hb hts in_MO hown hK hP 0 rfl rfl 1 (by decide) (hts _ gw_519) (fun _ h9 => h9) rfl d_MO_spoil_35 ?_
      refine lv_iload hx hb d_MO_spoil_38 (lv_at hl 0 rfl) ?_
      refine va_iald hx hb hK hP 1 0 rfl rfl (by first | exact ix_place (by assumption) | exact absurd (by assumption : (1 : Int32) = 0) (by decide)) d_MO_spoil_40 ?_
      refine lv_iload_n hx hb d_MO_spoil_41 rfl (lv_at hl 4 rfl) ?_
      refine lv_ixor hx hb d_MO_spoil_42 ?_
      refine va_iast hx hb hK hP hD hS 1 0 rfl rfl (by first | exact ix_place (by assumption) | exact absurd (by assumption : (1 : Int32) = 0) (by decide)) d_MO_spoil_43 (fun H locs hP hD hS => ?_)
      have hP : va_P (dC, dI) classes [(h, .inr (5, [.int (0 : Int32), .ref af, .ref ak, .ref ar, .ref ag, .int le, .int lo, .int da, .ref ad, .ref ac, .ref ab, .int si, .ref ax, .ref aw, .ref an, .ref av, .ref aa])), (af, .inl (cI, 70, .inl (upd fl ((f_MO_placeOf pl wd)).toNatClampNeg ((fl ((f_MO_placeOf pl wd)).toNatClampNeg) ^^^ bi))))] H := hP
      have hD : va_D A [(h, .inr (5, [.int (0 : Int32), .ref af, .ref ak, .ref ar, .ref ag, .int le, .int lo, .int da, .ref ad, .ref ac, .ref ab, .int si, .ref ax, .ref aw, .ref an, .ref av, .ref aa])), (af, .inl (cI, 70, .inl (upd fl ((f_MO_placeOf pl wd)).toNatClampNeg ((fl ((f_MO_placeOf pl wd)).toNatClampNeg) ^^^ bi))))] := hD
      have e0 : (f_MO_spoil pl wd bi th le lo da si fl) = ((0 : Int32), (upd fl ((f_MO_placeOf pl wd)).toNatClampNeg ((fl ((f_MO_placeOf pl wd)).toNatClampNeg) ^^^ bi))) := by rw [f_MO_spoil, if_pos h4, if_pos h5]
      rw [e0]
      exact W.vret hx hb hr (fun t ht hW => ⟨⟨(), rfl, trivial, by rw [ht]; exact hP, va_K.moved hW.alike hK, hD⟩, hS.F ht⟩) hS.2.2 d_MO_spoil_44
  · refine lv_iconst (v := 1) hx hb d_MO_spoil_13 (by decide) ?_
    refine lv_goto (tgt := 18) hx hb d_MO_spoil_14 (by decide) ?_
    refine va_put (D := (dC, dI)) (ci := 5) (v := .int (1 : Int32)) (ty := .int) (C := R_MO) (T := F_MO) (N := 17) hx hb hts in_MO t_MO t_MO_ok n_MO hown hK hP hD hS 0 rfl rfl 0 (by decide) (hts _ gw_518) (fun _ h9 => h9) rfl (by decide +kernel) rfl rfl (Nat.le_of_ble_eq_true rfl) d_MO_spoil_18 (fun H locs hP hD hS => ?_)
    have hP : va_P (dC, dI) classes [(h, .inr (5, [.int (1 : Int32), .ref af, .ref ak, .ref ar, .ref ag, .int le, .int lo, .int da, .ref ad, .ref ac, .ref ab, .int si, .ref ax, .ref aw, .ref an, .ref av, .ref aa])), (af, .inl (cI, 70, .inl fl))] H := hP
    have hD : va_D A [(h, .inr (5, [.int (1 : Int32), .ref af, .ref ak, .ref ar, .ref ag, .int le, .int lo, .int da, .ref ad, .ref ac, .ref ab, .int si, .ref ax, .ref aw, .ref an, .ref av, .ref aa])), (af, .inl (cI, 70, .inl fl))] := hD
    refine lv_aload_n hx hb d_MO_spoil_21 rfl (lv_at hl 1 rfl) ?_
    refine va_get (D := (dC, dI)) (ci := 5) (v := .int (1 : Int32)) (C := R_MO) (T := F_MO) (N := 17) hx hb hts in_MO hown hK hP 0 rfl rfl 0 (by decide) (hts _ gw_518) (fun _ h9 => h9) rfl d_MO_spoil_22 ?_
    refine lv_if_ne (tgt := 44) hx hb d_MO_spoil_25 (by decide) (fun h6 => ?_) (fun h6 => ?_)
    · have e0 : (f_MO_spoil pl wd bi th le lo da si fl) = ((1 : Int32), fl) := by rw [f_MO_spoil, if_neg h4, if_neg h6]
      rw [e0]
      exact W.vret hx hb hr (fun t ht hW => ⟨⟨(), rfl, trivial, by rw [ht]; exact hP, va_K.moved hW.alike hK, hD⟩, hS.F ht⟩) hS.2.2 d_MO_spoil_44
    · refine lv_aload_n hx hb d_MO_spoil_28 rfl (lv_at hl 1 rfl) ?_
      refine va_get (D := (dC, dI)) (ci := 5) (v := .ref af) (C := R_MO) (T := F_MO) (N := 17) hx hb hts in_MO hown hK hP 0 rfl rfl 1 (by decide) (hts _ gw_519) (fun _ h9 => h9) rfl d_MO_spoil_29 ?_
      refine lv_iload hx hb d_MO_spoil_32 (lv_at hl 0 rfl) ?_
      refine lv_aload_n hx hb d_MO_spoil_34 rfl (lv_at hl 1 rfl) ?_
      refine va_get (D := (dC, dI)) (ci := 5) (v := .ref af) (C := R_MO) (T := F_MO) (N := 17) hx hb hts in_MO hown hK hP 0 rfl rfl 1 (by decide) (hts _ gw_519) (fun _ h9 => h9) rfl d_MO_spoil_35 ?_
      refine lv_iload hx hb d_MO_spoil_38 (lv_at hl 0 rfl) ?_
      refine va_iald hx hb hK hP 1 0 rfl rfl (by first | exact ix_place (by assumption) | exact absurd (by assumption : (1 : Int32) = 0) (by decide)) d_MO_spoil_40 ?_
      refine lv_iload_n hx hb d_MO_spoil_41 rfl (lv_at hl 4 rfl) ?_
      refine lv_ixor hx hb d_MO_spoil_42 ?_
      refine va_iast hx hb hK hP hD hS 1 0 rfl rfl (by first | exact ix_place (by assumption) | exact absurd (by assumption : (1 : Int32) = 0) (by decide)) d_MO_spoil_43 (fun H locs hP hD hS => ?_)
      have hP : va_P (dC, dI) classes [(h, .inr (5, [.int (1 : Int32), .ref af, .ref ak, .ref ar, .ref ag, .int le, .int lo, .int da, .ref ad, .ref ac, .ref ab, .int si, .ref ax, .ref aw, .ref an, .ref av, .ref aa])), (af, .inl (cI, 70, .inl (upd fl ((f_MO_placeOf pl wd)).toNatClampNeg ((fl ((f_MO_placeOf pl wd)).toNatClampNeg) ^^^ bi))))] H := hP
      have hD : va_D A [(h, .inr (5, [.int (1 : Int32), .ref af, .ref ak, .ref ar, .ref ag, .int le, .int lo, .int da, .ref ad, .ref ac, .ref ab, .int si, .ref ax, .ref aw, .ref an, .ref av, .ref aa])), (af, .inl (cI, 70, .inl (upd fl ((f_MO_placeOf pl wd)).toNatClampNeg ((fl ((f_MO_placeOf pl wd)).toNatClampNeg) ^^^ bi))))] := hD
      have e0 : (f_MO_spoil pl wd bi th le lo da si fl) = ((1 : Int32), (upd fl ((f_MO_placeOf pl wd)).toNatClampNeg ((fl ((f_MO_placeOf pl wd)).toNatClampNeg) ^^^ bi))) := by rw [f_MO_spoil, if_neg h4, if_pos h6]
      rw [e0]
      exact W.vret hx hb hr (fun t ht hW => ⟨⟨(), rfl, trivial, by rw [ht]; exact hP, va_K.moved hW.alike hK, hD⟩, hS.F ht⟩) hS.2.2 d_MO_spoil_44
-- MO_flash
theorem d_MO_flash_0 : decode prog_8_method_34_code 0 = .ok (.iload_n 1, 1) := by decide +kernel
theorem d_MO_flash_1 : decode prog_8_method_34_code 1 = .ok (.iload_n 2, 1) := by decide +kernel
theorem d_MO_flash_2 : decode prog_8_method_34_code 2 = .ok (.invokestatic 298, 3) := by decide +kernel
theorem d_MO_flash_5 : decode prog_8_method_34_code 5 = .ok (.istore_n 3, 1) := by decide +kernel
theorem d_MO_flash_6 : decode prog_8_method_34_code 6 = .ok (.aload_n 0, 1) := by decide +kernel
theorem d_MO_flash_7 : decode prog_8_method_34_code 7 = .ok (.iconst 0, 1) := by decide +kernel
theorem d_MO_flash_8 : decode prog_8_method_34_code 8 = .ok (.putfield 195, 3) := by decide +kernel
theorem d_MO_flash_11 : decode prog_8_method_34_code 11 = .ok (.iload_n 3, 1) := by decide +kernel
theorem d_MO_flash_12 : decode prog_8_method_34_code 12 = .ok (.ifCond .ge 11, 3) := by decide +kernel
theorem d_MO_flash_15 : decode prog_8_method_34_code 15 = .ok (.aload_n 0, 1) := by decide +kernel
theorem d_MO_flash_16 : decode prog_8_method_34_code 16 = .ok (.iconst 1, 1) := by decide +kernel
theorem d_MO_flash_17 : decode prog_8_method_34_code 17 = .ok (.invokevirtual 281, 3) := by decide +kernel
theorem d_MO_flash_20 : decode prog_8_method_34_code 20 = .ok (.goto 9, 3) := by decide +kernel
theorem d_MO_flash_23 : decode prog_8_method_34_code 23 = .ok (.aload_n 0, 1) := by decide +kernel
theorem d_MO_flash_24 : decode prog_8_method_34_code 24 = .ok (.getfield 7, 3) := by decide +kernel
theorem d_MO_flash_27 : decode prog_8_method_34_code 27 = .ok (.iload_n 3, 1) := by decide +kernel
theorem d_MO_flash_28 : decode prog_8_method_34_code 28 = .ok (.iaload, 1) := by decide +kernel
theorem d_MO_flash_29 : decode prog_8_method_34_code 29 = .ok (.ireturn, 1) := by decide +kernel
def y_MO_flash : MethodName := ⟨"BootChainModel", "flash", "(II)I"⟩
def ws_MO_flash : List Cond := .code y_MO_flash prog_8_method_34_code 4 (some .int) :: bc_G
def f_MO_flash_c1 (pl : Int32) (wd : Int32) (th : Int32) (le : Int32) (lo : Int32) (da : Int32) (si : Int32) (fl : Nat → Int32) (u1 : Int32 × Int32) : Int32 × Int32 := ((u1.1), (u1.2))
def f_MO_flash (pl : Int32) (wd : Int32) (th : Int32) (le : Int32) (lo : Int32) (da : Int32) (si : Int32) (fl : Nat → Int32) : Int32 × Int32 := if 0 ≤ (f_MO_placeOf pl wd) then ((fl ((f_MO_placeOf pl wd)).toNatClampNeg), (0 : Int32)) else f_MO_flash_c1 pl wd th le lo da si fl (f_MO_fail (1 : Int32) (0 : Int32) le lo da si)
set_option maxHeartbeats 4000000 in
set_option maxRecDepth 100000 in
theorem c_MO_flash (l : Launch) (dC : Nat → ClassId) (dI : Nat → Nat → Nat) (cI cJ : ClassId) (h af ak ar ag ad ac ab ax aw an av aa : Nat) (sz : Nat) (pl : Int32) (wd : Int32) (th : Int32) (le : Int32) (lo : Int32) (da : Int32) (si : Int32) (fl : Nat → Int32) : Met l y_MO_flash ws_MO_flash ({ frames := 2, cells := 0, slots := 0, locals := 42 } : Room) (va_Pc [.ref h, .int pl, .int wd] (bc_pre (dC, dI) cI cJ [(h, .inr (5, [.int th, .ref af, .ref ak, .ref ar, .ref ag, .int le, .int lo, .int da, .ref ad, .ref ac, .ref ab, .int si, .ref ax, .ref aw, .ref an, .ref av, .ref aa])), (af, .inl (cI, 70, .inl fl))] sz)) (va_Qi (fun (r : Int32) (_ : Unit) => r = (f_MO_flash pl wd th le lo da si fl).1) (fun _ => bc_post (dC, dI) cI cJ (va_A [(h, .inr (5, [.int th, .ref af, .ref ak, .ref ar, .ref ag, .int le, .int lo, .int da, .ref ad, .ref ac, .ref ab, .int si, .ref ax, .ref aw, .ref an, .ref av, .ref aa])), (af, .inl (cI, 70, .inl fl))] sz) [(h, .inr (5, [.int (f_MO_flash pl wd th le lo da si fl).2, .ref af, .ref ak, .ref ar, .ref ag, .int le, .int lo, .int da, .ref ad, .ref ac, .ref ab, .int si, .ref ax, .ref aw, .ref an, .ref av, .ref aa])), (af, .inl (cI, 70, .inl fl))]) (va_A [(h, .inr (5, [.int th, .ref af, .ref ak, .ref ar, .ref ag, .int le, .int lo, .int da, .ref ad, .ref ac, .ref ab, .int si, .ref ax, .ref aw, .ref an, .ref av, .ref aa])), (af, .inl (cI, 70, .inl fl))] sz)) 0 0 (va_A [(h, .inr (5, [.int th, .ref af, .ref ak, .ref ar, .ref ag, .int le, .int lo, .int da, .ref ad, .ref ac, .ref ab, .int si, .ref ax, .ref aw, .ref an, .ref av, .ref aa])), (af, .inl (cI, 70, .inl fl))] sz) := by
  refine Met.ofW (cc := prog_8_method_34_code) (maxL := 4) (ret := (some .int)) (by decide) rfl ?_
  intro p e s m args below meth c s₁ B hml hv
  obtain ⟨rfl, hsz, hP, hK, hD0, hE⟩ := hv
  have hx := B.exec
  have hb := B.bytes
  have hr := B.returns
  have hts : ∀ w ∈ bc_G, w.before ([.ref h, .int pl, .int wd] : List Value).toArray s = true := fun w h => atoms_spec (ws := ws_MO_flash) B.pre w (List.mem_cons_of_mem _ h)
  have hown : s.vm.findClass "BootChainModel" = some m.cls := findClass_of_methodNamed B.named
  have hlocks := B.notSynchronized
  subst hsz
  have hD := hD0.self (sz := s.heap.size)
  generalize hAe : va_A [(h, .inr (5, [.int th, .ref af, .ref ak, .ref ar, .ref ag, .int le, .int lo, .int da, .ref ad, .ref ac, .ref ab, .int si, .ref ax, .ref aw, .ref an, .ref av, .ref aa])), (af, .inl (cI, 70, .inl fl))] s.heap.size = A at hD hE ⊢
  have hA : ∀ q : Nat, s.heap.size ≤ q → A q := fun q h => by rw [← hAe]; exact Or.inr h
  have hS : va_S A s.heap s.heap [] := va_S.rf
  have hl := lv_entry ([.ref h, .int pl, .int wd]) (n := 4) (Nat.le_of_ble_eq_true rfl)
  rw [lg_entry_eq]
  generalize (lg_sl ([.ref h, .int pl, .int wd]) ++ List.replicate (4 - (lg_sl ([.ref h, .int pl, .int wd])).length) Slot.unset).toArray = ls at hl ⊢
  have hl : lv_has ls 4 [(0, .ref h), (1, .int pl), (2, .int wd)] := hl
  refine lv_iload_n hx hb d_MO_flash_0 rfl (lv_at hl 1 rfl) ?_
  refine lv_iload_n hx hb d_MO_flash_1 rfl (lv_at hl 2 rfl) ?_
  have hPc := hP.sub (ws' := []) [] rfl
  have hDc := hD.sub (ws' := []) [] (by decide) rfl
  have hFc := va_free (wc := []) hD hS hA [] rfl
  refine va_calli (va_runS (As := [.int pl, .int wd]) (rest := []) ⟨hx, hb, hml, hown, hts⟩ (c_MO_placeOf l dC dI cI cJ _ pl wd) ⟨callB_of 2 hts (bc_good gw_663) rfl rfl rfl (hts _ gw_6) (hts _ gw_661) (by decide +kernel) ⟨Nat.le_of_ble_eq_true rfl, Nat.le_of_ble_eq_true rfl⟩, (hts _ gw_662)⟩ ⟨bc_blind, fun U hU hW => ⟨rfl, bc_give hPc hDc hK hE hS hFc U hU hW⟩⟩ rfl rfl hl.1 rfl (lv_room (Nat.le_of_ble_eq_true rfl)) d_MO_flash_2 ⟨Nat.le_of_ble_eq_true rfl, Nat.le_of_ble_eq_true rfl⟩) hS (fun q _ h => hFc q h) hFc (fun r u t H9 locs ht hvm hp hB hz1 hk1 hS => ?_)
  subst hp
  obtain ⟨hP, hD⟩ := va_join (wr := [(h, .inr (5, [.int th, .ref af, .ref ak, .ref ar, .ref ag, .int le, .int lo, .int da, .ref ad, .ref ac, .ref ab, .int si, .ref ax, .ref aw, .ref an, .ref av, .ref aa])), (af, .inl (cI, 70, .inl fl))]) (w1 := []) hP hD [] [0, 1] rfl rfl (by decide) (by decide) hk1 hFc (ht ▸ hB.1) hB.2.2
  have hP := hP.sub (ws' := [(h, .inr (5, [.int th, .ref af, .ref ak, .ref ar, .ref ag, .int le, .int lo, .int da, .ref ad, .ref ac, .ref ab, .int si, .ref ax, .ref aw, .ref an, .ref av, .ref aa])), (af, .inl (cI, 70, .inl fl))]) [0, 1] rfl
  have hD := hD.sub (ws' := [(h, .inr (5, [.int th, .ref af, .ref ak, .ref ar, .ref ag, .int le, .int lo, .int da, .ref ad, .ref ac, .ref ab, .int si, .ref ax, .ref aw, .ref an, .ref av, .ref aa])), (af, .inl (cI, 70, .inl fl))]) [0, 1] (by decide) rfl
  generalize H9 = H at hP hS ⊢
  refine lv_istore_n (lv' := [(3, .int (f_MO_placeOf pl wd)), (0, .ref h), (1, .int pl), (2, .int wd)]) hx hb d_MO_flash_5 rfl hl (by decide) rfl (fun ls hl => ?_)
  refine lv_aload_n hx hb d_MO_flash_6 rfl (lv_at hl 1 rfl) ?_
  refine lv_iconst (v := 0) hx hb d_MO_flash_7 (by decide) ?_
  refine va_put (D := (dC, dI)) (ci := 5) (v := .int (0 : Int32)) (ty := .int) (C := R_MO) (T := F_MO) (N := 17) hx hb hts in_MO t_MO t_MO_ok n_MO hown hK hP hD hS 0 rfl rfl 0 (by decide) (hts _ gw_518) (fun _ h9 => h9) rfl (by decide +kernel) rfl rfl (Nat.le_of_ble_eq_true rfl) d_MO_flash_8 (fun H locs hP hD hS => ?_)
  have hP : va_P (dC, dI) classes [(h, .inr (5, [.int (0 : Int32), .ref af, .ref ak, .ref ar, .ref ag, .int le, .int lo, .int da, .ref ad, .ref ac, .ref ab, .int si, .ref ax, .ref aw, .ref an, .ref av, .ref aa])), (af, .inl (cI, 70, .inl fl))] H := hP
  have hD : va_D A [(h, .inr (5, [.int (0 : Int32), .ref af, .ref ak, .ref ar, .ref ag, .int le, .int lo, .int da, .ref ad, .ref ac, .ref ab, .int si, .ref ax, .ref aw, .ref an, .ref av, .ref aa])), (af, .inl (cI, 70, .inl fl))] := hD
  refine lv_iload_n hx hb d_MO_flash_11 rfl (lv_at hl 0 rfl) ?_
  refine lv_if_ge (tgt := 23) hx hb d_MO_flash_12 (by decide) (fun h2 => ?_) (fun h2 => ?_)
  · refine lv_aload_n hx hb d_MO_flash_23 rfl (lv_at hl 1 rfl) ?_
    refine va_get (D := (dC, dI)) (ci := 5) (v := .ref af) (C := R_MO) (T := F_MO) (N := 17) hx hb hts in_MO hown hK hP 0 rfl rfl 1 (by decide) (hts _ gw_519) (fun _ h9 => h9) rfl d_MO_flash_24 ?_
    refine lv_iload_n hx hb d_MO_flash_27 rfl (lv_at hl 0 rfl) ?_
    refine va_iald hx hb hK hP 1 0 rfl rfl (by exact ix_place (by assumption)) d_MO_flash_28 ?_
    have e0 : (f_MO_flash pl wd th le lo da si fl) = ((fl ((f_MO_placeOf pl wd)).toNatClampNeg), (0 : Int32)) := by rw [f_MO_flash, if_pos h2]
    rw [e0]
    exact W.iret (v := (fl ((f_MO_placeOf pl wd)).toNatClampNeg)) hx hb hr (fun t ht hW => ⟨⟨(fl ((f_MO_placeOf pl wd)).toNatClampNeg), (), rfl, rfl, by rw [ht]; exact hP, va_K.moved hW.alike hK, hD⟩, hS.F ht⟩) hS.2.2 d_MO_flash_29
  · refine lv_aload_n hx hb d_MO_flash_15 rfl (lv_at hl 1 rfl) ?_
    refine lv_iconst (v := 1) hx hb d_MO_flash_16 (by decide) ?_
    have hPc := hP.sub (ws' := [(h, .inr (5, [.int (0 : Int32), .ref af, .ref ak, .ref ar, .ref ag, .int le, .int lo, .int da, .ref ad, .ref ac, .ref ab, .int si, .ref ax, .ref aw, .ref an, .ref av, .ref aa]))]) [0] rfl
    have hDc := hD.sub (ws' := [(h, .inr (5, [.int (0 : Int32), .ref af, .ref ak, .ref ar, .ref ag, .int le, .int lo, .int da, .ref ad, .ref ac, .ref ab, .int si, .ref ax, .ref aw, .ref an, .ref av, .ref aa]))]) [0] (by decide) rfl
    have hFc := va_free (wc := [(h, .inr (5, [.int (0 : Int32), .ref af, .ref ak, .ref ar, .ref ag, .int le, .int lo, .int da, .ref ad, .ref ac, .ref ab, .int si, .ref ax, .ref aw, .ref an, .ref av, .ref aa]))]) hD hS hA [0] rfl
    refine va_calli (va_runV (As := [.int (1 : Int32)]) (rest := []) ⟨hx, hb, hml, hown, hts⟩ (c_MO_fail l dC dI cI cJ h af ak ar ag ad ac ab ax aw an av aa _ (1 : Int32) (0 : Int32) le lo da si) ⟨callB_of 1 hts (bc_good gw_618) rfl rfl rfl (hts _ gw_6) (hts _ gw_616) (by decide +kernel) ⟨Nat.le_of_ble_eq_true rfl, Nat.le_of_ble_eq_true rfl⟩, (hts _ gw_617), (hts _ gw_717)⟩ ⟨bc_blind, va_recv (q0 := 0) hK hP (q := (R_MO, F_MO, 17)) rfl rfl, fun U hU hW => ⟨rfl, bc_give hPc hDc hK hE hS hFc U hU hW⟩⟩ rfl rfl hl.1 rfl (lv_room (Nat.le_of_ble_eq_true rfl)) d_MO_flash_17 ⟨Nat.le_of_ble_eq_true rfl, Nat.le_of_ble_eq_true rfl⟩) hS (fun q _ h => hFc q h) hFc (fun r u t H9 locs ht hvm hp hB hz1 hk1 hS => ?_)
    subst hp
    obtain ⟨hP, hD⟩ := va_join (wr := [(af, .inl (cI, 70, .inl fl))]) (w1 := [(h, .inr (5, [.int ((f_MO_fail (1 : Int32) (0 : Int32) le lo da si).2), .ref af, .ref ak, .ref ar, .ref ag, .int le, .int lo, .int da, .ref ad, .ref ac, .ref ab, .int si, .ref ax, .ref aw, .ref an, .ref av, .ref aa]))]) hP hD [0] [1] rfl rfl (by decide) (by decide) hk1 hFc (ht ▸ hB.1) hB.2.2
    have hP := hP.sub (ws' := [(h, .inr (5, [.int ((f_MO_fail (1 : Int32) (0 : Int32) le lo da si).2), .ref af, .ref ak, .ref ar, .ref ag, .int le, .int lo, .int da, .ref ad, .ref ac, .ref ab, .int si, .ref ax, .ref aw, .ref an, .ref av, .ref aa])), (af, .inl (cI, 70, .inl fl))]) [1, 0] rfl
    have hD := hD.sub (ws' := [(h, .inr (5, [.int ((f_MO_fail (1 : Int32) (0 : Int32) le lo da si).2), .ref af, .ref ak, .ref ar, .ref ag, .int le, .int lo, .int da, .ref ad, .ref ac, .ref ab, .int si, .ref ax, .ref aw, .ref an, .ref av, .ref aa])), (af, .inl (cI, 70, .inl fl))]) [1, 0] (by decide) rfl
    generalize H9 = H at hP hS ⊢
    have e0 : (f_MO_flash pl wd th le lo da si fl) = f_MO_flash_c1 pl wd th le lo da si fl (f_MO_fail (1 : Int32) (0 : Int32) le lo da si) := by rw [f_MO_flash, if_neg h2]
    rw [e0]
    generalize hu1 : (f_MO_fail (1 : Int32) (0 : Int32) le lo da si) = u1 at hP hD ⊢
    have hP : va_P (dC, dI) classes [(h, .inr (5, [.int (u1.2), .ref af, .ref ak, .ref ar, .ref ag, .int le, .int lo, .int da, .ref ad, .ref ac, .ref ab, .int si, .ref ax, .ref aw, .ref an, .ref av, .ref aa])), (af, .inl (cI, 70, .inl fl))] H := hP
    have hD : va_D A [(h, .inr (5, [.int (u1.2), .ref af, .ref ak, .ref ar, .ref ag, .int le, .int lo, .int da, .ref ad, .ref ac, .ref ab, .int si, .ref ax, .ref aw, .ref an, .ref av, .ref aa])), (af, .inl (cI, 70, .inl fl))] := hD
    refine lv_goto (tgt := 29) hx hb d_MO_flash_20 (by decide) ?_
    have e0 : (f_MO_flash_c1 pl wd th le lo da si fl u1) = ((u1.1), (u1.2)) := by rw [f_MO_flash_c1]
    rw [e0]
    exact W.iret (v := (u1.1)) hx hb hr (fun t ht hW => ⟨⟨(u1.1), (), rfl, rfl, by rw [ht]; exact hP, va_K.moved hW.alike hK, hD⟩, hS.F ht⟩) hS.2.2 d_MO_flash_29
-- MO_quote
theorem d_MO_quote_0 : decode prog_8_method_38_code 0 = .ok (.aload_n 0, 1) := by decide +kernel
theorem d_MO_quote_1 : decode prog_8_method_38_code 1 = .ok (.iload_n 2, 1) := by decide +kernel
theorem d_MO_quote_2 : decode prog_8_method_38_code 2 = .ok (.bipush 8, 2) := by decide +kernel
theorem d_MO_quote_4 : decode prog_8_method_38_code 4 = .ok (.invokestatic 256, 3) := by decide +kernel
theorem d_MO_quote_7 : decode prog_8_method_38_code 7 = .ok (.ifCond .eq 7, 3) := by decide +kernel
theorem d_MO_quote_10 : decode prog_8_method_38_code 10 = .ok (.iconst 1, 1) := by decide +kernel
theorem d_MO_quote_11 : decode prog_8_method_38_code 11 = .ok (.goto 15, 3) := by decide +kernel
theorem d_MO_quote_14 : decode prog_8_method_38_code 14 = .ok (.aload_n 0, 1) := by decide +kernel
theorem d_MO_quote_15 : decode prog_8_method_38_code 15 = .ok (.invokevirtual 294, 3) := by decide +kernel
theorem d_MO_quote_18 : decode prog_8_method_38_code 18 = .ok (.ifCond .ne 7, 3) := by decide +kernel
theorem d_MO_quote_21 : decode prog_8_method_38_code 21 = .ok (.iconst 2, 1) := by decide +kernel
theorem d_MO_quote_22 : decode prog_8_method_38_code 22 = .ok (.goto 4, 3) := by decide +kernel
theorem d_MO_quote_25 : decode prog_8_method_38_code 25 = .ok (.iconst 0, 1) := by decide +kernel
theorem d_MO_quote_26 : decode prog_8_method_38_code 26 = .ok (.putfield 195, 3) := by decide +kernel
theorem d_MO_quote_29 : decode prog_8_method_38_code 29 = .ok (.aload_n 0, 1) := by decide +kernel
theorem d_MO_quote_30 : decode prog_8_method_38_code 30 = .ok (.getfield 195, 3) := by decide +kernel
theorem d_MO_quote_33 : decode prog_8_method_38_code 33 = .ok (.ifCond .le 5, 3) := by decide +kernel
theorem d_MO_quote_36 : decode prog_8_method_38_code 36 = .ok (.iconst 0, 1) := by decide +kernel
theorem d_MO_quote_37 : decode prog_8_method_38_code 37 = .ok (.ireturn, 1) := by decide +kernel
theorem d_MO_quote_38 : decode prog_8_method_38_code 38 = .ok (.aload_n 0, 1) := by decide +kernel
theorem d_MO_quote_39 : decode prog_8_method_38_code 39 = .ok (.bipush 9, 2) := by decide +kernel
theorem d_MO_quote_41 : decode prog_8_method_38_code 41 = .ok (.iconst 4, 1) := by decide +kernel
theorem d_MO_quote_42 : decode prog_8_method_38_code 42 = .ok (.invokevirtual 233, 3) := by decide +kernel
theorem d_MO_quote_45 : decode prog_8_method_38_code 45 = .ok (.aload_n 0, 1) := by decide +kernel
theorem d_MO_quote_46 : decode prog_8_method_38_code 46 = .ok (.aload_n 0, 1) := by decide +kernel
theorem d_MO_quote_47 : decode prog_8_method_38_code 47 = .ok (.getfield 19, 3) := by decide +kernel
theorem d_MO_quote_50 : decode prog_8_method_38_code 50 = .ok (.iconst 0, 1) := by decide +kernel
theorem d_MO_quote_51 : decode prog_8_method_38_code 51 = .ok (.bipush 16, 2) := by decide +kernel
theorem d_MO_quote_53 : decode prog_8_method_38_code 53 = .ok (.invokevirtual 236, 3) := by decide +kernel
theorem d_MO_quote_56 : decode prog_8_method_38_code 56 = .ok (.aload_n 0, 1) := by decide +kernel
theorem d_MO_quote_57 : decode prog_8_method_38_code 57 = .ok (.iload_n 1, 1) := by decide +kernel
theorem d_MO_quote_58 : decode prog_8_method_38_code 58 = .ok (.invokevirtual 203, 3) := by decide +kernel
theorem d_MO_quote_61 : decode prog_8_method_38_code 61 = .ok (.aload_n 0, 1) := by decide +kernel
theorem d_MO_quote_62 : decode prog_8_method_38_code 62 = .ok (.invokevirtual 240, 3) := by decide +kernel
theorem d_MO_quote_65 : decode prog_8_method_38_code 65 = .ok (.aload_n 0, 1) := by decide +kernel
theorem d_MO_quote_66 : decode prog_8_method_38_code 66 = .ok (.getfield 48, 3) := by decide +kernel
theorem d_MO_quote_69 : decode prog_8_method_38_code 69 = .ok (.iload_n 2, 1) := by decide +kernel
theorem d_MO_quote_70 : decode prog_8_method_38_code 70 = .ok (.iaload, 1) := by decide +kernel
theorem d_MO_quote_71 : decode prog_8_method_38_code 71 = .ok (.ireturn, 1) := by decide +kernel
def y_MO_quote : MethodName := ⟨"BootChainModel", "quote", "(II)I"⟩
def ws_MO_quote : List Cond := .code y_MO_quote prog_8_method_38_code 3 (some .int) :: bc_G
def f_MO_quote_c4 (no : Int32) (wd : Int32) (th : Int32) (le : Int32) (lo : Int32) (da : Int32) (si : Int32) (kc : Nat → Int64) (bg : Nat → Int64) (tx : Nat → Int64) (wi : Nat → Int64) (nw : Nat → Int64) (vv : Nat → Int64) (aw_ : Nat → Int32) (rn : Nat → Int32) (rg : Nat → Int32) (t0 : Int32) (y0_0 : Int32) (y0_11 : Int32) (y3 : Nat → Int64) (y4 : Nat → Int64) (y5 : Nat → Int64) (y6 : Nat → Int64) (y7 : Nat → Int32) (u1 : Int32 × (Nat → Int64)) (u2 : Int32 × (Nat → Int64)) (u3 : Int32 × (Nat → Int64)) (u4 : Int32 × (Nat → Int64) × (Nat → Int64) × (Nat → Int64) × (Nat → Int64) × (Nat → Int32)) : Int32 × Int32 × Int32 × (Nat → Int64) × (Nat → Int64) × (Nat → Int64) × (Nat → Int64) × (Nat → Int32) := (((u4.2.2.2.2.2) (wd).toNatClampNeg), t0, (u4.1), (u4.2.1), (u4.2.2.1), (u4.2.2.2.1), (u4.2.2.2.2.1), (u4.2.2.2.2.2))
def f_MO_quote_c3 (no : Int32) (wd : Int32) (th : Int32) (le : Int32) (lo : Int32) (da : Int32) (si : Int32) (kc : Nat → Int64) (bg : Nat → Int64) (tx : Nat → Int64) (wi : Nat → Int64) (nw : Nat → Int64) (vv : Nat → Int64) (aw_ : Nat → Int32) (rn : Nat → Int32) (rg : Nat → Int32) (t0 : Int32) (y0_0 : Int32) (y0_11 : Int32) (y3 : Nat → Int64) (y4 : Nat → Int64) (y5 : Nat → Int64) (y6 : Nat → Int64) (y7 : Nat → Int32) (u1 : Int32 × (Nat → Int64)) (u2 : Int32 × (Nat → Int64)) (u3 : Int32 × (Nat → Int64)) : Int32 × Int32 × Int32 × (Nat → Int64) × (Nat → Int64) × (Nat → Int64) × (Nat → Int64) × (Nat → Int32) := f_MO_quote_c4 no wd th le lo da si kc bg tx wi nw vv aw_ rn rg t0 y0_0 y0_11 y3 y4 y5 y6 y7 u1 u2 u3 (f_MO_hashText t0 le lo da (u3.1) kc bg (u3.2) y4 y5 y6 y7)
def f_MO_quote_c2 (no : Int32) (wd : Int32) (th : Int32) (le : Int32) (lo : Int32) (da : Int32) (si : Int32) (kc : Nat → Int64) (bg : Nat → Int64) (tx : Nat → Int64) (wi : Nat → Int64) (nw : Nat → Int64) (vv : Nat → Int64) (aw_ : Nat → Int32) (rn : Nat → Int32) (rg : Nat → Int32) (t0 : Int32) (y0_0 : Int32) (y0_11 : Int32) (y3 : Nat → Int64) (y4 : Nat → Int64) (y5 : Nat → Int64) (y6 : Nat → Int64) (y7 : Nat → Int32) (u1 : Int32 × (Nat → Int64)) (u2 : Int32 × (Nat → Int64)) : Int32 × Int32 × Int32 × (Nat → Int64) × (Nat → Int64) × (Nat → Int64) × (Nat → Int64) × (Nat → Int32) := f_MO_quote_c3 no wd th le lo da si kc bg tx wi nw vv aw_ rn rg t0 y0_0 y0_11 y3 y4 y5 y6 y7 u1 u2 (f_MO_add no t0 le lo da (u2.1) (u2.2))
def f_MO_quote_c1 (no : Int32) (wd : Int32) (th : Int32) (le : Int32) (lo : Int32) (da : Int32) (si : Int32) (kc : Nat → Int64) (bg : Nat → Int64) (tx : Nat → Int64) (wi : Nat → Int64) (nw : Nat → Int64) (vv : Nat → Int64) (aw_ : Nat → Int32) (rn : Nat → Int32) (rg : Nat → Int32) (t0 : Int32) (y0_0 : Int32) (y0_11 : Int32) (y3 : Nat → Int64) (y4 : Nat → Int64) (y5 : Nat → Int64) (y6 : Nat → Int64) (y7 : Nat → Int32) (u1 : Int32 × (Nat → Int64)) : Int32 × Int32 × Int32 × (Nat → Int64) × (Nat → Int64) × (Nat → Int64) × (Nat → Int64) × (Nat → Int32) := f_MO_quote_c2 no wd th le lo da si kc bg tx wi nw vv aw_ rn rg t0 y0_0 y0_11 y3 y4 y5 y6 y7 u1 (f_MO_addFrom 16 (0 : Int32) (16 : Int32) t0 le lo da (u1.1) (u1.2) rg)
def f_MO_quote_j26 (no : Int32) (wd : Int32) (th : Int32) (le : Int32) (lo : Int32) (da : Int32) (si : Int32) (kc : Nat → Int64) (bg : Nat → Int64) (tx : Nat → Int64) (wi : Nat → Int64) (nw : Nat → Int64) (vv : Nat → Int64) (aw_ : Nat → Int32) (rn : Nat → Int32) (rg : Nat → Int32) (t0 : Int32) (y0_0 : Int32) (y0_11 : Int32) (y3 : Nat → Int64) (y4 : Nat → Int64) (y5 : Nat → Int64) (y6 : Nat → Int64) (y7 : Nat → Int32) : Int32 × Int32 × Int32 × (Nat → Int64) × (Nat → Int64) × (Nat → Int64) × (Nat → Int64) × (Nat → Int32) := if t0 ≤ 0 then f_MO_quote_c1 no wd th le lo da si kc bg tx wi nw vv aw_ rn rg t0 y0_0 y0_11 y3 y4 y5 y6 y7 (f_MO_addCount (9 : Int32) (4 : Int32) t0 le lo da y0_11 y3) else ((0 : Int32), t0, y0_11, y3, y4, y5, y6, y7)
def f_MO_quote (no : Int32) (wd : Int32) (th : Int32) (le : Int32) (lo : Int32) (da : Int32) (si : Int32) (kc : Nat → Int64) (bg : Nat → Int64) (tx : Nat → Int64) (wi : Nat → Int64) (nw : Nat → Int64) (vv : Nat → Int64) (aw_ : Nat → Int32) (rn : Nat → Int32) (rg : Nat → Int32) : Int32 × Int32 × Int32 × (Nat → Int64) × (Nat → Int64) × (Nat → Int64) × (Nat → Int64) × (Nat → Int32) := if (f_MO_out wd (8 : Int32)) = 0 then if (f_MO_both th le lo da si rn) = 0 then f_MO_quote_j26 no wd th le lo da si kc bg tx wi nw vv aw_ rn rg (2 : Int32) th si tx wi nw vv aw_ else f_MO_quote_j26 no wd th le lo da si kc bg tx wi nw vv aw_ rn rg (0 : Int32) th si tx wi nw vv aw_ else f_MO_quote_j26 no wd th le lo da si kc bg tx wi nw vv aw_ rn rg (1 : Int32) th si tx wi nw vv aw_
set_option maxHeartbeats 4000000 in
set_option maxRecDepth 100000 in
theorem c_MO_quote (l : Launch) (dC : Nat → ClassId) (dI : Nat → Nat → Nat) (cI cJ : ClassId) (h af ak ar ag ad ac ab ax aw an av aa : Nat) (sz : Nat) (no : Int32) (wd : Int32) (th : Int32) (le : Int32) (lo : Int32) (da : Int32) (si : Int32) (kc : Nat → Int64) (bg : Nat → Int64) (tx : Nat → Int64) (wi : Nat → Int64) (nw : Nat → Int64) (vv : Nat → Int64) (aw_ : Nat → Int32) (rn : Nat → Int32) (rg : Nat → Int32) (hsi : si = 0) : Met l y_MO_quote ws_MO_quote ({ frames := 3, cells := 0, slots := 0, locals := 84 } : Room) (va_Pc [.ref h, .int no, .int wd] (bc_pre (dC, dI) cI cJ [(h, .inr (5, [.int th, .ref af, .ref ak, .ref ar, .ref ag, .int le, .int lo, .int da, .ref ad, .ref ac, .ref ab, .int si, .ref ax, .ref aw, .ref an, .ref av, .ref aa])), (ac, .inl (cJ, 64, .inr (.inl kc))), (ab, .inl (cJ, 8, .inr (.inl bg))), (ax, .inl (cJ, 48, .inr (.inl tx))), (aw, .inl (cJ, 64, .inr (.inl wi))), (an, .inl (cJ, 8, .inr (.inl nw))), (av, .inl (cJ, 8, .inr (.inl vv))), (aa, .inl (cI, 8, .inl aw_)), (ar, .inl (cI, 2, .inl rn)), (ag, .inl (cI, 16, .inl rg))] sz)) (va_Qi (fun (r : Int32) (_ : Unit) => r = (f_MO_quote no wd th le lo da si kc bg tx wi nw vv aw_ rn rg).1) (fun _ => bc_post (dC, dI) cI cJ (va_A [(h, .inr (5, [.int th, .ref af, .ref ak, .ref ar, .ref ag, .int le, .int lo, .int da, .ref ad, .ref ac, .ref ab, .int si, .ref ax, .ref aw, .ref an, .ref av, .ref aa])), (ac, .inl (cJ, 64, .inr (.inl kc))), (ab, .inl (cJ, 8, .inr (.inl bg))), (ax, .inl (cJ, 48, .inr (.inl tx))), (aw, .inl (cJ, 64, .inr (.inl wi))), (an, .inl (cJ, 8, .inr (.inl nw))), (av, .inl (cJ, 8, .inr (.inl vv))), (aa, .inl (cI, 8, .inl aw_)), (ar, .inl (cI, 2, .inl rn)), (ag, .inl (cI, 16, .inl rg))] sz) [(h, .inr (5, [.int (f_MO_quote no wd th le lo da si kc bg tx wi nw vv aw_ rn rg).2.1, .ref af, .ref ak, .ref ar, .ref ag, .int le, .int lo, .int da, .ref ad, .ref ac, .ref ab, .int (f_MO_quote no wd th le lo da si kc bg tx wi nw vv aw_ rn rg).2.2.1, .ref ax, .ref aw, .ref an, .ref av, .ref aa])), (ac, .inl (cJ, 64, .inr (.inl kc))), (ab, .inl (cJ, 8, .inr (.inl bg))), (ax, .inl (cJ, 48, .inr (.inl (f_MO_quote no wd th le lo da si kc bg tx wi nw vv aw_ rn rg).2.2.2.1))), (aw, .inl (cJ, 64, .inr (.inl (f_MO_quote no wd th le lo da si kc bg tx wi nw vv aw_ rn rg).2.2.2.2.1))), (an, .inl (cJ, 8, .inr (.inl (f_MO_quote no wd th le lo da si kc bg tx wi nw vv aw_ rn rg).2.2.2.2.2.1))), (av, .inl (cJ, 8, .inr (.inl (f_MO_quote no wd th le lo da si kc bg tx wi nw vv aw_ rn rg).2.2.2.2.2.2.1))), (aa, .inl (cI, 8, .inl (f_MO_quote no wd th le lo da si kc bg tx wi nw vv aw_ rn rg).2.2.2.2.2.2.2)), (ar, .inl (cI, 2, .inl rn)), (ag, .inl (cI, 16, .inl rg))]) (va_A [(h, .inr (5, [.int th, .ref af, .ref ak, .ref ar, .ref ag, .int le, .int lo, .int da, .ref ad, .ref ac, .ref ab, .int si, .ref ax, .ref aw, .ref an, .ref av, .ref aa])), (ac, .inl (cJ, 64, .inr (.inl kc))), (ab, .inl (cJ, 8, .inr (.inl bg))), (ax, .inl (cJ, 48, .inr (.inl tx))), (aw, .inl (cJ, 64, .inr (.inl wi))), (an, .inl (cJ, 8, .inr (.inl nw))), (av, .inl (cJ, 8, .inr (.inl vv))), (aa, .inl (cI, 8, .inl aw_)), (ar, .inl (cI, 2, .inl rn)), (ag, .inl (cI, 16, .inl rg))] sz)) 0 0 (va_A [(h, .inr (5, [.int th, .ref af, .ref ak, .ref ar, .ref ag, .int le, .int lo, .int da, .ref ad, .ref ac, .ref ab, .int si, .ref ax, .ref aw, .ref an, .ref av, .ref aa])), (ac, .inl (cJ, 64, .inr (.inl kc))), (ab, .inl (cJ, 8, .inr (.inl bg))), (ax, .inl (cJ, 48, .inr (.inl tx))), (aw, .inl (cJ, 64, .inr (.inl wi))), (an, .inl (cJ, 8, .inr (.inl nw))), (av, .inl (cJ, 8, .inr (.inl vv))), (aa, .inl (cI, 8, .inl aw_)), (ar, .inl (cI, 2, .inl rn)), (ag, .inl (cI, 16, .inl rg))] sz) := by
  refine Met.ofW (cc := prog_8_method_38_code) (maxL := 3) (ret := (some .int)) (by decide) rfl ?_
  intro p e s m args below meth c s₁ B hml hv
  obtain ⟨rfl, hsz, hP, hK, hD0, hE⟩ := hv
  have hx := B.exec
  have hb := B.bytes
  have hr := B.returns
  have hts : ∀ w ∈ bc_G, w.before ([.ref h, .int no, .int wd] : List Value).toArray s = true := fun w h => atoms_spec (ws := ws_MO_quote) B.pre w (List.mem_cons_of_mem _ h)
  have hown : s.vm.findClass "BootChainModel" = some m.cls := findClass_of_methodNamed B.named
  have hlocks := B.notSynchronized
  subst hsz
  have hD := hD0.self (sz := s.heap.size)
  generalize hAe : va_A [(h, .inr (5, [.int th, .ref af, .ref ak, .ref ar, .ref ag, .int le, .int lo, .int da, .ref ad, .ref ac, .ref ab, .int si, .ref ax, .ref aw, .ref an, .ref av, .ref aa])), (ac, .inl (cJ, 64, .inr (.inl kc))), (ab, .inl (cJ, 8, .inr (.inl bg))), (ax, .inl (cJ, 48, .inr (.inl tx))), (aw, .inl (cJ, 64, .inr (.inl wi))), (an, .inl (cJ, 8, .inr (.inl nw))), (av, .inl (cJ, 8, .inr (.inl vv))), (aa, .inl (cI, 8, .inl aw_)), (ar, .inl (cI, 2, .inl rn)), (ag, .inl (cI, 16, .inl rg))] s.heap.size = A at hD hE ⊢
  have hA : ∀ q : Nat, s.heap.size ≤ q → A q := fun q h => by rw [← hAe]; exact Or.inr h
  have hS : va_S A s.heap s.heap [] := va_S.rf
  have jn_26 : ∀ (t0 : Int32) (y0_0 : Int32) (y0_11 : Int32) (y3 : Nat → Int64) (y4 : Nat → Int64) (y5 : Nat → Int64) (y6 : Nat → Int64) (y7 : Nat → Int32) (H : Heap) (locs : List Loc) (ls : Array Slot), (y0_11 = 0 ∧ (t0 ≤ 0 → (0 ≤ wd ∧ ¬ 8 ≤ wd))) → lv_has ls 3 [(0, .ref h), (1, .int no), (2, .int wd)] → va_P (dC, dI) classes [(h, .inr (5, [.int y0_0, .ref af, .ref ak, .ref ar, .ref ag, .int le, .int lo, .int da, .ref ad, .ref ac, .ref ab, .int y0_11, .ref ax, .ref aw, .ref an, .ref av, .ref aa])), (ac, .inl (cJ, 64, .inr (.inl kc))), (ab, .inl (cJ, 8, .inr (.inl bg))), (ax, .inl (cJ, 48, .inr (.inl y3))), (aw, .inl (cJ, 64, .inr (.inl y4))), (an, .inl (cJ, 8, .inr (.inl y5))), (av, .inl (cJ, 8, .inr (.inl y6))), (aa, .inl (cI, 8, .inl y7)), (ar, .inl (cI, 2, .inl rn)), (ag, .inl (cI, 16, .inl rg))] H → va_D A [(h, .inr (5, [.int y0_0, .ref af, .ref ak, .ref ar, .ref ag, .int le, .int lo, .int da, .ref ad, .ref ac, .ref ab, .int y0_11, .ref ax, .ref aw, .ref an, .ref av, .ref aa])), (ac, .inl (cJ, 64, .inr (.inl kc))), (ab, .inl (cJ, 8, .inr (.inl bg))), (ax, .inl (cJ, 48, .inr (.inl y3))), (aw, .inl (cJ, 64, .inr (.inl y4))), (an, .inl (cJ, 8, .inr (.inl y5))), (av, .inl (cJ, 8, .inr (.inl y6))), (aa, .inl (cI, 8, .inl y7)), (ar, .inl (cI, 2, .inl rn)), (ag, .inl (cI, 16, .inl rg))] → va_S A s.heap H locs → W p l e (headSpec ws_MO_quote ({ frames := 3, cells := 0, slots := 0, locals := 84 } : Room)).room s m ([.ref h, .int no, .int wd] : List Value).toArray below meth c H locs 0 0 (MQ below (va_Qi (fun (r : Int32) (_ : Unit) => r = (f_MO_quote_j26 no wd th le lo da si kc bg tx wi nw vv aw_ rn rg t0 y0_0 y0_11 y3 y4 y5 y6 y7).1) (fun _ => bc_post (dC, dI) cI cJ A [(h, .inr (5, [.int (f_MO_quote_j26 no wd th le lo da si kc bg tx wi nw vv aw_ rn rg t0 y0_0 y0_11 y3 y4 y5 y6 y7).2.1, .ref af, .ref ak, .ref ar, .ref ag, .int le, .int lo, .int da, .ref ad, .ref ac, .ref ab, .int (f_MO_quote_j26 no wd th le lo da si kc bg tx wi nw vv aw_ rn rg t0 y0_0 y0_11 y3 y4 y5 y6 y7).2.2.1, .ref ax, .ref aw, .ref an, .ref av, .ref aa])), (ac, .inl (cJ, 64, .inr (.inl kc))), (ab, .inl (cJ, 8, .inr (.inl bg))), (ax, .inl (cJ, 48, .inr (.inl (f_MO_quote_j26 no wd th le lo da si kc bg tx wi nw vv aw_ rn rg t0 y0_0 y0_11 y3 y4 y5 y6 y7).2.2.2.1))), (aw, .inl (cJ, 64, .inr (.inl (f_MO_quote_j26 no wd th le lo da si kc bg tx wi nw vv aw_ rn rg t0 y0_0 y0_11 y3 y4 y5 y6 y7).2.2.2.2.1))), (an, .inl (cJ, 8, .inr (.inl (f_MO_quote_j26 no wd th le lo da si kc bg tx wi nw vv aw_ rn rg t0 y0_0 y0_11 y3 y4 y5 y6 y7).2.2.2.2.2.1))), (av, .inl (cJ, 8, .inr (.inl (f_MO_quote_j26 no wd th le lo da si kc bg tx wi nw vv aw_ rn rg t0 y0_0 y0_11 y3 y4 y5 y6 y7).2.2.2.2.2.2.1))), (aa, .inl (cI, 8, .inl (f_MO_quote_j26 no wd th le lo da si kc bg tx wi nw vv aw_ rn rg t0 y0_0 y0_11 y3 y4 y5 y6 y7).2.2.2.2.2.2.2)), (ar, .inl (cI, 2, .inl rn)), (ag, .inl (cI, 16, .inl rg))]) A) ([.ref h, .int no, .int wd] : List Value).toArray s 0 0 A) (F0 m 26 ls [.int t0, .ref h]) := by
    intro t0 y0_0 y0_11 y3 y4 y5 y6 y7 H locs ls hJ hl hP hD hS
    refine va_put (D := (dC, dI)) (ci := 5) (v := .int t0) (ty := .int) (C := R_MO) (T := F_MO) (N := 17) hx hb hts in_MO t_MO t_MO_ok n_MO hown hK hP hD hS 0 rfl rfl 0 (by decide) (hts _ gw_518) (fun _ h9 => h9) rfl (by decide +kernel) rfl rfl (Nat.le_of_ble_eq_true rfl) d_MO_quote_26 (fun H locs hP hD hS => ?_)
    have hP : va_P (dC, dI) classes [(h, .inr (5, [.int t0, .ref af, .ref ak, .ref ar, .ref ag, .int le, .int lo, .int da, .ref ad, .ref ac, .ref ab, .int y0_11, .ref ax, .ref aw, .ref an, .ref av, .ref aa])), (ac, .inl (cJ, 64, .inr (.inl kc))), (ab, .inl (cJ, 8, .inr (.inl bg))), (ax, .inl (cJ, 48, .inr (.inl y3))), (aw, .inl (cJ, 64, .inr (.inl y4))), (an, .inl (cJ, 8, .inr (.inl y5))), (av, .inl (cJ, 8, .inr (.inl y6))), (aa, .inl (cI, 8, .inl y7)), (ar, .inl (cI, 2, .inl rn)), (ag, .inl (cI, 16, .inl rg))] H := hP
    have hD : va_D A [(h, .inr (5, [.int t0, .ref af, .ref ak, .ref ar, .ref ag, .int le, .int lo, .int da, .ref ad, .ref ac, .ref ab, .int y0_11, .ref ax, .ref aw, .ref an, .ref av, .ref aa])), (ac, .inl (cJ, 64, .inr (.inl kc))), (ab, .inl (cJ, 8, .inr (.inl bg))), (ax, .inl (cJ, 48, .inr (.inl y3))), (aw, .inl (cJ, 64, .inr (.inl y4))), (an, .inl (cJ, 8, .inr (.inl y5))), (av, .inl (cJ, 8, .inr (.inl y6))), (aa, .inl (cI, 8, .inl y7)), (ar, .inl (cI, 2, .inl rn)), (ag, .inl (cI, 16, .inl rg))] := hD
    refine lv_aload_n hx hb d_MO_quote_29 rfl (lv_at hl 0 rfl) ?_
    refine va_get (D := (dC, dI)) (ci := 5) (v := .int t0) (C := R_MO) (T := F_MO) (N := 17) hx hb hts in_MO hown hK hP 0 rfl rfl 0 (by decide) (hts _ gw_518) (fun _ h9 => h9) rfl d_MO_quote_30 ?_
    refine lv_if_le (tgt := 38) hx hb d_MO_quote_33 (by decide) (fun h6 => ?_) (fun h6 => ?_)
    · refine lv_aload_n hx hb d_MO_quote_38 rfl (lv_at hl 0 rfl) ?_
      refine lv_bipush (v := 9) hx hb d_MO_quote_39 (by decide) ?_
      refine lv_iconst (v := 4) hx hb d_MO_quote_41 (by decide) ?_
      have hPc := hP.sub (ws' := [(h, .inr (5, [.int t0, .ref af, .ref ak, .ref ar, .ref ag, .int le, .int lo, .int da, .ref ad, .ref ac, .ref ab, .int y0_11, .ref ax, .ref aw, .ref an, .ref av, .ref aa])), (ax, .inl (cJ, 48, .inr (.inl y3)))]) [0, 3] rfl
      have hDc := hD.sub (ws' := [(h, .inr (5, [.int t0, .ref af, .ref ak, .ref ar, .ref ag, .int le, .int lo, .int da, .ref ad, .ref ac, .ref ab, .int y0_11, .ref ax, .ref aw, .ref an, .ref av, .ref aa])), (ax, .inl (cJ, 48, .inr (.inl y3)))]) [0, 3] (by decide) rfl
      have hFc := va_free (wc := [(h, .inr (5, [.int t0, .ref af, .ref ak, .ref ar, .ref ag, .int le, .int lo, .int da, .ref ad, .ref ac, .ref ab, .int y0_11, .ref ax, .ref aw, .ref an, .ref av, .ref aa])), (ax, .inl (cJ, 48, .inr (.inl y3)))]) hD hS hA [0, 3] rfl
      refine va_callv (va_runV (As := [.int (9 : Int32), .int (4 : Int32)]) (rest := []) ⟨hx, hb, hml, hown, hts⟩ (c_MO_addCount l dC dI cI cJ h af ak ar ag ad ac ab ax aw an av aa _ (9 : Int32) (4 : Int32) t0 le lo da y0_11 y3 (ad_of (k := 0) hJ.1 4 (by decide))) ⟨callB_of 2 hts (bc_good gw_588) rfl rfl rfl (hts _ gw_6) (hts _ gw_586) (by decide +kernel) ⟨Nat.le_of_ble_eq_true rfl, Nat.le_of_ble_eq_true rfl⟩, (hts _ gw_587), (hts _ gw_710)⟩ ⟨bc_blind, va_recv (q0 := 0) hK hP (q := (R_MO, F_MO, 17)) rfl rfl, fun U hU hW => ⟨rfl, bc_give hPc hDc hK hE hS hFc U hU hW⟩⟩ rfl rfl hl.1 rfl (lv_room (Nat.le_of_ble_eq_true rfl)) d_MO_quote_42 ⟨Nat.le_of_ble_eq_true rfl, Nat.le_of_ble_eq_true rfl⟩) hS (fun q _ h => hFc q h) hFc (fun u t H9 locs ht hvm hp hB hz1 hk1 hS => ?_)
      obtain ⟨hP, hD⟩ := va_join (wr := [(ac, .inl (cJ, 64, .inr (.inl kc))), (ab, .inl (cJ, 8, .inr (.inl bg))), (aw, .inl (cJ, 64, .inr (.inl y4))), (an, .inl (cJ, 8, .inr (.inl y5))), (av, .inl (cJ, 8, .inr (.inl y6))), (aa, .inl (cI, 8, .inl y7)), (ar, .inl (cI, 2, .inl rn)), (ag, .inl (cI, 16, .inl rg))]) (w1 := [(h, .inr (5, [.int t0, .ref af, .ref ak, .ref ar, .ref ag, .int le, .int lo, .int da, .ref ad, .ref ac, .ref ab, .int ((f_MO_addCount (9 : Int32) (4 : Int32) t0 le lo da y0_11 y3).1), .ref ax, .ref aw, .ref an, .ref av, .ref aa])), (ax, .inl (cJ, 48, .inr (.inl ((f_MO_addCount (9 : Int32) (4 : Int32) t0 le lo da y0_11 y3).2))))]) hP hD [0, 3] [1, 2, 4, 5, 6, 7, 8, 9] rfl rfl (by decide) (by decide) hk1 hFc (ht ▸ hB.1) hB.2.2
      have hP := hP.sub (ws' := [(h, .inr (5, [.int t0, .ref af, .ref ak, .ref ar, .ref ag, .int le, .int lo, .int da, .ref ad, .ref ac, .ref ab, .int ((f_MO_addCount (9 : Int32) (4 : Int32) t0 le lo da y0_11 y3).1), .ref ax, .ref aw, .ref an, .ref av, .ref aa])), (ac, .inl (cJ, 64, .inr (.inl kc))), (ab, .inl (cJ, 8, .inr (.inl bg))), (ax, .inl (cJ, 48, .inr (.inl ((f_MO_addCount (9 : Int32) (4 : Int32) t0 le lo da y0_11 y3).2)))), (aw, .inl (cJ, 64, .inr (.inl y4))), (an, .inl (cJ, 8, .inr (.inl y5))), (av, .inl (cJ, 8, .inr (.inl y6))), (aa, .inl (cI, 8, .inl y7)), (ar, .inl (cI, 2, .inl rn)), (ag, .inl (cI, 16, .inl rg))]) [8, 0, 1, 9, 2, 3, 4, 5, 6, 7] rfl
      have hD := hD.sub (ws' := [(h, .inr (5, [.int t0, .ref af, .ref ak, .ref ar, .ref ag, .int le, .int lo, .int da, .ref ad, .ref ac, .ref ab, .int ((f_MO_addCount (9 : Int32) (4 : Int32) t0 le lo da y0_11 y3).1), .ref ax, .ref aw, .ref an, .ref av, .ref aa])), (ac, .inl (cJ, 64, .inr (.inl kc))), (ab, .inl (cJ, 8, .inr (.inl bg))), (ax, .inl (cJ, 48, .inr (.inl ((f_MO_addCount (9 : Int32) (4 : Int32) t0 le lo da y0_11 y3).2)))), (aw, .inl (cJ, 64, .inr (.inl y4))), (an, .inl (cJ, 8, .inr (.inl y5))), (av, .inl (cJ, 8, .inr (.inl y6))), (aa, .inl (cI, 8, .inl y7)), (ar, .inl (cI, 2, .inl rn)), (ag, .inl (cI, 16, .inl rg))]) [8, 0, 1, 9, 2, 3, 4, 5, 6, 7] (by decide) rfl
      generalize H9 = H at hP hS ⊢
      have e0 : (f_MO_quote_j26 no wd th le lo da si kc bg tx wi nw vv aw_ rn rg t0 y0_0 y0_11 y3 y4 y5 y6 y7) = f_MO_quote_c1 no wd th le lo da si kc bg tx wi nw vv aw_ rn rg t0 y0_0 y0_11 y3 y4 y5 y6 y7 (f_MO_addCount (9 : Int32) (4 : Int32) t0 le lo da y0_11 y3) := by rw [f_MO_quote_j26, if_pos h6]
      rw [e0]
      generalize hu1 : (f_MO_addCount (9 : Int32) (4 : Int32) t0 le lo da y0_11 y3) = u1 at hP hD ⊢
      have hP : va_P (dC, dI) classes [(h, .inr (5, [.int t0, .ref af, .ref ak, .ref ar, .ref ag, .int le, .int lo, .int da, .ref ad, .ref ac, .ref ab, .int (u1.1), .ref ax, .ref aw, .ref an, .ref av, .ref aa])), (ac, .inl (cJ, 64, .inr (.inl kc))), (ab, .inl (cJ, 8, .inr (.inl bg))), (ax, .inl (cJ, 48, .inr (.inl (u1.2)))), (aw, .inl (cJ, 64, .inr (.inl y4))), (an, .inl (cJ, 8, .inr (.inl y5))), (av, .inl (cJ, 8, .inr (.inl y6))), (aa, .inl (cI, 8, .inl y7)), (ar, .inl (cI, 2, .inl rn)), (ag, .inl (cI, 16, .inl rg))] H := hP
      have hD : va_D A [(h, .inr (5, [.int t0, .ref af, .ref ak, .ref ar, .ref ag, .int le, .int lo, .int da, .ref ad, .ref ac, .ref ab, .int (u1.1), .ref ax, .ref aw, .ref an, .ref av, .ref aa])), (ac, .inl (cJ, 64, .inr (.inl kc))), (ab, .inl (cJ, 8, .inr (.inl bg))), (ax, .inl (cJ, 48, .inr (.inl (u1.2)))), (aw, .inl (cJ, 64, .inr (.inl y4))), (an, .inl (cJ, 8, .inr (.inl y5))), (av, .inl (cJ, 8, .inr (.inl y6))), (aa, .inl (cI, 8, .inl y7)), (ar, .inl (cI, 2, .inl rn)), (ag, .inl (cI, 16, .inl rg))] := hD
      refine lv_aload_n hx hb d_MO_quote_45 rfl (lv_at hl 0 rfl) ?_
      refine lv_aload_n hx hb d_MO_quote_46 rfl (lv_at hl 0 rfl) ?_
      refine va_get (D := (dC, dI)) (ci := 5) (v := .ref ag) (C := R_MO) (T := F_MO) (N := 17) hx hb hts in_MO hown hK hP 0 rfl rfl 4 (by decide) (hts _ gw_522) (fun _ h9 => h9) rfl d_MO_quote_47 ?_
      refine lv_iconst (v := 0) hx hb d_MO_quote_50 (by decide) ?_
      refine lv_bipush (v := 16) hx hb d_MO_quote_51 (by decide) ?_
      have hPc := hP.sub (ws' := [(h, .inr (5, [.int t0, .ref af, .ref ak, .ref ar, .ref ag, .int le, .int lo, .int da, .ref ad, .ref ac, .ref ab, .int (u1.1), .ref ax, .ref aw, .ref an, .ref av, .ref aa])), (ax, .inl (cJ, 48, .inr (.inl (u1.2)))), (ag, .inl (cI, 16, .inl rg))]) [0, 3, 9] rfl
      have hDc := hD.sub (ws' := [(h, .inr (5, [.int t0, .ref af, .ref ak, .ref ar, .ref ag, .int le, .int lo, .int da, .ref ad, .ref ac, .ref ab, .int (u1.1), .ref ax, .ref aw, .ref an, .ref av, .ref aa])), (ax, .inl (cJ, 48, .inr (.inl (u1.2)))), (ag, .inl (cI, 16, .inl rg))]) [0, 3, 9] (by decide) rfl
      have hFc := va_free (wc := [(h, .inr (5, [.int t0, .ref af, .ref ak, .ref ar, .ref ag, .int le, .int lo, .int da, .ref ad, .ref ac, .ref ab, .int (u1.1), .ref ax, .ref aw, .ref an, .ref av, .ref aa])), (ax, .inl (cJ, 48, .inr (.inl (u1.2)))), (ag, .inl (cI, 16, .inl rg))]) hD hS hA [0, 3, 9] rfl
      refine va_callv (va_runV (As := [.ref ag, .int (0 : Int32), .int (16 : Int32)]) (rest := []) ⟨hx, hb, hml, hown, hts⟩ (c_MO_addFrom l dC dI cI cJ h ag af ak ar ag ad ac ab ax aw an av aa _ 16 (0 : Int32) (16 : Int32) t0 le lo da (u1.1) (u1.2) rg (by rw [← hu1]; exact ad_of (mo_cnt 0 4 hJ.1 (by decide)) 16 (by decide)) (fun x h0 h1 => ix_off 0 16 16 h0 h1 rfl (by decide) (by decide))) ⟨callB_of 3 hts (bc_good gw_642) rfl rfl rfl (hts _ gw_6) (hts _ gw_640) (by decide +kernel) ⟨Nat.le_of_ble_eq_true rfl, Nat.le_of_ble_eq_true rfl⟩, (hts _ gw_641), (hts _ gw_722)⟩ ⟨bc_blind, va_recv (q0 := 0) hK hP (q := (R_MO, F_MO, 17)) rfl rfl, fun U hU hW => ⟨rfl, bc_give hPc hDc hK hE hS hFc U hU hW⟩⟩ rfl rfl hl.1 rfl (lv_room (Nat.le_of_ble_eq_true rfl)) d_MO_quote_53 ⟨Nat.le_of_ble_eq_true rfl, Nat.le_of_ble_eq_true rfl⟩) hS (fun q _ h => hFc q h) hFc (fun u t H9 locs ht hvm hp hB hz1 hk1 hS => ?_)
      obtain ⟨hP, hD⟩ := va_join (wr := [(ac, .inl (cJ, 64, .inr (.inl kc))), (ab, .inl (cJ, 8, .inr (.inl bg))), (aw, .inl (cJ, 64, .inr (.inl y4))), (an, .inl (cJ, 8, .inr (.inl y5))), (av, .inl (cJ, 8, .inr (.inl y6))), (aa, .inl (cI, 8, .inl y7)), (ar, .inl (cI, 2, .inl rn))]) (w1 := [(h, .inr (5, [.int t0, .ref af, .ref ak, .ref ar, .ref ag, .int le, .int lo, .int da, .ref ad, .ref ac, .ref ab, .int ((f_MO_addFrom 16 (0 : Int32) (16 : Int32) t0 le lo da (u1.1) (u1.2) rg).1), .ref ax, .ref aw, .ref an, .ref av, .ref aa])), (ax, .inl (cJ, 48, .inr (.inl ((f_MO_addFrom 16 (0 : Int32) (16 : Int32) t0 le lo da (u1.1) (u1.2) rg).2)))), (ag, .inl (cI, 16, .inl rg))]) hP hD [0, 3, 9] [1, 2, 4, 5, 6, 7, 8] rfl rfl (by decide) (by decide) hk1 hFc (ht ▸ hB.1) hB.2.2
      have hP := hP.sub (ws' := [(h, .inr (5, [.int t0, .ref af, .ref ak, .ref ar, .ref ag, .int le, .int lo, .int da, .ref ad, .ref ac, .ref ab, .int ((f_MO_addFrom 16 (0 : Int32) (16 : Int32) t0 le lo da (u1.1) (u1.2) rg).1), .ref ax, .ref aw, .ref an, .ref av, .ref aa])), (ac, .inl (cJ, 64, .inr (.inl kc))), (ab, .inl (cJ, 8, .inr (.inl bg))), (ax, .inl (cJ, 48, .inr (.inl ((f_MO_addFrom 16 (0 : Int32) (16 : Int32) t0 le lo da (u1.1) (u1.2) rg).2)))), (aw, .inl (cJ, 64, .inr (.inl y4))), (an, .inl (cJ, 8, .inr (.inl y5))), (av, .inl (cJ, 8, .inr (.inl y6))), (aa, .inl (cI, 8, .inl y7)), (ar, .inl (cI, 2, .inl rn)), (ag, .inl (cI, 16, .inl rg))]) [7, 0, 1, 8, 2, 3, 4, 5, 6, 9] rfl
      have hD := hD.sub (ws' := [(h, .inr (5, [.int t0, .ref af, .ref ak, .ref ar, .ref ag, .int le, .int lo, .int da, .ref ad, .ref ac, .ref ab, .int ((f_MO_addFrom 16 (0 : Int32) (16 : Int32) t0 le lo da (u1.1) (u1.2) rg).1), .ref ax, .ref aw, .ref an, .ref av, .ref aa])), (ac, .inl (cJ, 64, .inr (.inl kc))), (ab, .inl (cJ, 8, .inr (.inl bg))), (ax, .inl (cJ, 48, .inr (.inl ((f_MO_addFrom 16 (0 : Int32) (16 : Int32) t0 le lo da (u1.1) (u1.2) rg).2)))), (aw, .inl (cJ, 64, .inr (.inl y4))), (an, .inl (cJ, 8, .inr (.inl y5))), (av, .inl (cJ, 8, .inr (.inl y6))), (aa, .inl (cI, 8, .inl y7)), (ar, .inl (cI, 2, .inl rn)), (ag, .inl (cI, 16, .inl rg))]) [7, 0, 1, 8, 2, 3, 4, 5, 6, 9] (by decide) rfl
      generalize H9 = H at hP hS ⊢
      have e0 : (f_MO_quote_c1 no wd th le lo da si kc bg tx wi nw vv aw_ rn rg t0 y0_0 y0_11 y3 y4 y5 y6 y7 u1) = f_MO_quote_c2 no wd th le lo da si kc bg tx wi nw vv aw_ rn rg t0 y0_0 y0_11 y3 y4 y5 y6 y7 u1 (f_MO_addFrom 16 (0 : Int32) (16 : Int32) t0 le lo da (u1.1) (u1.2) rg) := by rw [f_MO_quote_c1]
      rw [e0]
      generalize hu2 : (f_MO_addFrom 16 (0 : Int32) (16 : Int32) t0 le lo da (u1.1) (u1.2) rg) = u2 at hP hD ⊢
      have hP : va_P (dC, dI) classes [(h, .inr (5, [.int t0, .ref af, .ref ak, .ref ar, .ref ag, .int le, .int lo, .int da, .ref ad, .ref ac, .ref ab, .int (u2.1), .ref ax, .ref aw, .ref an, .ref av, .ref aa])), (ac, .inl (cJ, 64, .inr (.inl kc))), (ab, .inl (cJ, 8, .inr (.inl bg))), (ax, .inl (cJ, 48, .inr (.inl (u2.2)))), (aw, .inl (cJ, 64, .inr (.inl y4))), (an, .inl (cJ, 8, .inr (.inl y5))), (av, .inl (cJ, 8, .inr (.inl y6))), (aa, .inl (cI, 8, .inl y7)), (ar, .inl (cI, 2, .inl rn)), (ag, .inl (cI, 16, .inl rg))] H := hP
      have hD : va_D A [(h, .inr (5, [.int t0, .ref af, .ref ak, .ref ar, .ref ag, .int le, .int lo, .int da, .ref ad, .ref ac, .ref ab, .int (u2.1), .ref ax, .ref aw, .ref an, .ref av, .ref aa])), (ac, .inl (cJ, 64, .inr (.inl kc))), (ab, .inl (cJ, 8, .inr (.inl bg))), (ax, .inl (cJ, 48, .inr (.inl (u2.2)))), (aw, .inl (cJ, 64, .inr (.inl y4))), (an, .inl (cJ, 8, .inr (.inl y5))), (av, .inl (cJ, 8, .inr (.inl y6))), (aa, .inl (cI, 8, .inl y7)), (ar, .inl (cI, 2, .inl rn)), (ag, .inl (cI, 16, .inl rg))] := hD
      refine lv_aload_n hx hb d_MO_quote_56 rfl (lv_at hl 0 rfl) ?_
      refine lv_iload_n hx hb d_MO_quote_57 rfl (lv_at hl 1 rfl) ?_
      have hPc := hP.sub (ws' := [(h, .inr (5, [.int t0, .ref af, .ref ak, .ref ar, .ref ag, .int le, .int lo, .int da, .ref ad, .ref ac, .ref ab, .int (u2.1), .ref ax, .ref aw, .ref an, .ref av, .ref aa])), (ax, .inl (cJ, 48, .inr (.inl (u2.2))))]) [0, 3] rfl
      have hDc := hD.sub (ws' := [(h, .inr (5, [.int t0, .ref af, .ref ak, .ref ar, .ref ag, .int le, .int lo, .int da, .ref ad, .ref ac, .ref ab, .int (u2.1), .ref ax, .ref aw, .ref an, .ref av, .ref aa])), (ax, .inl (cJ, 48, .inr (.inl (u2.2))))]) [0, 3] (by decide) rfl
      have hFc := va_free (wc := [(h, .inr (5, [.int t0, .ref af, .ref ak, .ref ar, .ref ag, .int le, .int lo, .int da, .ref ad, .ref ac, .ref ab, .int (u2.1), .ref ax, .ref aw, .ref an, .ref av, .ref aa])), (ax, .inl (cJ, 48, .inr (.inl (u2.2))))]) hD hS hA [0, 3] rfl
      refine va_callv (va_runV (As := [.int no]) (rest := []) ⟨hx, hb, hml, hown, hts⟩ (c_MO_add l dC dI cI cJ h af ak ar ag ad ac ab ax aw an av aa _ no t0 le lo da (u2.1) (u2.2) (by rw [← hu2]; exact ix_k (mo_row 4 16 (by rw [← hu1]; exact mo_cnt 0 4 hJ.1 (by decide)) (by decide)) (by decide))) ⟨callB_of 1 hts (bc_good gw_591) rfl rfl rfl (hts _ gw_6) (hts _ gw_589) (by decide +kernel) ⟨Nat.le_of_ble_eq_true rfl, Nat.le_of_ble_eq_true rfl⟩, (hts _ gw_590), (hts _ gw_711)⟩ ⟨bc_blind, va_recv (q0 := 0) hK hP (q := (R_MO, F_MO, 17)) rfl rfl, fun U hU hW => ⟨rfl, bc_give hPc hDc hK hE hS hFc U hU hW⟩⟩ rfl rfl hl.1 rfl (lv_room (Nat.le_of_ble_eq_true rfl)) d_MO_quote_58 ⟨Nat.le_of_ble_eq_true rfl, Nat.le_of_ble_eq_true rfl⟩) hS (fun q _ h => hFc q h) hFc (fun u t H9 locs ht hvm hp hB hz1 hk1 hS => ?_)
      obtain ⟨hP, hD⟩ := va_join (wr := [(ac, .inl (cJ, 64, .inr (.inl kc))), (ab, .inl (cJ, 8, .inr (.inl bg))), (aw, .inl (cJ, 64, .inr (.inl y4))), (an, .inl (cJ, 8, .inr (.inl y5))), (av, .inl (cJ, 8, .inr (.inl y6))), (aa, .inl (cI, 8, .inl y7)), (ar, .inl (cI, 2, .inl rn)), (ag, .inl (cI, 16, .inl rg))]) (w1 := [(h, .inr (5, [.int t0, .ref af, .ref ak, .ref ar, .ref ag, .int le, .int lo, .int da, .ref ad, .ref ac, .ref ab, .int ((f_MO_add no t0 le lo da (u2.1) (u2.2)).1), .ref ax, .ref aw, .ref an, .ref av, .ref aa])), (ax, .inl (cJ, 48, .inr (.inl ((f_MO_add no t0 le lo da (u2.1) (u2.2)).2))))]) hP hD [0, 3] [1, 2, 4, 5, 6, 7, 8, 9] rfl rfl (by decide) (by decide) hk1 hFc (ht ▸ hB.1) hB.2.2
      have hP := hP.sub (ws' := [(h, .inr (5, [.int t0, .ref af, .ref ak, .ref ar, .ref ag, .int le, .int lo, .int da, .ref ad, .ref ac, .ref ab, .int ((f_MO_add no t0 le lo da (u2.1) (u2.2)).1), .ref ax, .ref aw, .ref an, .ref av, .ref aa])), (ac, .inl (cJ, 64, .inr (.inl kc))), (ab, .inl (cJ, 8, .inr (.inl bg))), (ax, .inl (cJ, 48, .inr (.inl ((f_MO_add no t0 le lo da (u2.1) (u2.2)).2)))), (aw, .inl (cJ, 64, .inr (.inl y4))), (an, .inl (cJ, 8, .inr (.inl y5))), (av, .inl (cJ, 8, .inr (.inl y6))), (aa, .inl (cI, 8, .inl y7)), (ar, .inl (cI, 2, .inl rn)), (ag, .inl (cI, 16, .inl rg))]) [8, 0, 1, 9, 2, 3, 4, 5, 6, 7] rfl
      have hD := hD.sub (ws' := [(h, .inr (5, [.int t0, .ref af, .ref ak, .ref ar, .ref ag, .int le, .int lo, .int da, .ref ad, .ref ac, .ref ab, .int ((f_MO_add no t0 le lo da (u2.1) (u2.2)).1), .ref ax, .ref aw, .ref an, .ref av, .ref aa])), (ac, .inl (cJ, 64, .inr (.inl kc))), (ab, .inl (cJ, 8, .inr (.inl bg))), (ax, .inl (cJ, 48, .inr (.inl ((f_MO_add no t0 le lo da (u2.1) (u2.2)).2)))), (aw, .inl (cJ, 64, .inr (.inl y4))), (an, .inl (cJ, 8, .inr (.inl y5))), (av, .inl (cJ, 8, .inr (.inl y6))), (aa, .inl (cI, 8, .inl y7)), (ar, .inl (cI, 2, .inl rn)), (ag, .inl (cI, 16, .inl rg))]) [8, 0, 1, 9, 2, 3, 4, 5, 6, 7] (by decide) rfl
      generalize H9 = H at hP hS ⊢
      have e0 : (f_MO_quote_c2 no wd th le lo da si kc bg tx wi nw vv aw_ rn rg t0 y0_0 y0_11 y3 y4 y5 y6 y7 u1 u2) = f_MO_quote_c3 no wd th le lo da si kc bg tx wi nw vv aw_ rn rg t0 y0_0 y0_11 y3 y4 y5 y6 y7 u1 u2 (f_MO_add no t0 le lo da (u2.1) (u2.2)) := by rw [f_MO_quote_c2]
      rw [e0]
      generalize hu3 : (f_MO_add no t0 le lo da (u2.1) (u2.2)) = u3 at hP hD ⊢
      have hP : va_P (dC, dI) classes [(h, .inr (5, [.int t0, .ref af, .ref ak, .ref ar, .ref ag, .int le, .int lo, .int da, .ref ad, .ref ac, .ref ab, .int (u3.1), .ref ax, .ref aw, .ref an, .ref av, .ref aa])), (ac, .inl (cJ, 64, .inr (.inl kc))), (ab, .inl (cJ, 8, .inr (.inl bg))), (ax, .inl (cJ, 48, .inr (.inl (u3.2)))), (aw, .inl (cJ, 64, .inr (.inl y4))), (an, .inl (cJ, 8, .inr (.inl y5))), (av, .inl (cJ, 8, .inr (.inl y6))), (aa, .inl (cI, 8, .inl y7)), (ar, .inl (cI, 2, .inl rn)), (ag, .inl (cI, 16, .inl rg))] H := hP
      have hD : va_D A [(h, .inr (5, [.int t0, .ref af, .ref ak, .ref ar, .ref ag, .int le, .int lo, .int da, .ref ad, .ref ac, .ref ab, .int (u3.1), .ref ax, .ref aw, .ref an, .ref av, .ref aa])), (ac, .inl (cJ, 64, .inr (.inl kc))), (ab, .inl (cJ, 8, .inr (.inl bg))), (ax, .inl (cJ, 48, .inr (.inl (u3.2)))), (aw, .inl (cJ, 64, .inr (.inl y4))), (an, .inl (cJ, 8, .inr (.inl y5))), (av, .inl (cJ, 8, .inr (.inl y6))), (aa, .inl (cI, 8, .inl y7)), (ar, .inl (cI, 2, .inl rn)), (ag, .inl (cI, 16, .inl rg))] := hD
      refine lv_aload_n hx hb d_MO_quote_61 rfl (lv_at hl 0 rfl) ?_
      have hPc := hP.sub (ws' := [(h, .inr (5, [.int t0, .ref af, .ref ak, .ref ar, .ref ag, .int le, .int lo, .int da, .ref ad, .ref ac, .ref ab, .int (u3.1), .ref ax, .ref aw, .ref an, .ref av, .ref aa])), (ac, .inl (cJ, 64, .inr (.inl kc))), (ab, .inl (cJ, 8, .inr (.inl bg))), (ax, .inl (cJ, 48, .inr (.inl (u3.2)))), (aw, .inl (cJ, 64, .inr (.inl y4))), (an, .inl (cJ, 8, .inr (.inl y5))), (av, .inl (cJ, 8, .inr (.inl y6))), (aa, .inl (cI, 8, .inl y7))]) [0, 1, 2, 3, 4, 5, 6, 7] rfl
      have hDc := hD.sub (ws' := [(h, .inr (5, [.int t0, .ref af, .ref ak, .ref ar, .ref ag, .int le, .int lo, .int da, .ref ad, .ref ac, .ref ab, .int (u3.1), .ref ax, .ref aw, .ref an, .ref av, .ref aa])), (ac, .inl (cJ, 64, .inr (.inl kc))), (ab, .inl (cJ, 8, .inr (.inl bg))), (ax, .inl (cJ, 48, .inr (.inl (u3.2)))), (aw, .inl (cJ, 64, .inr (.inl y4))), (an, .inl (cJ, 8, .inr (.inl y5))), (av, .inl (cJ, 8, .inr (.inl y6))), (aa, .inl (cI, 8, .inl y7))]) [0, 1, 2, 3, 4, 5, 6, 7] (by decide) rfl
      have hFc := va_free (wc := [(h, .inr (5, [.int t0, .ref af, .ref ak, .ref ar, .ref ag, .int le, .int lo, .int da, .ref ad, .ref ac, .ref ab, .int (u3.1), .ref ax, .ref aw, .ref an, .ref av, .ref aa])), (ac, .inl (cJ, 64, .inr (.inl kc))), (ab, .inl (cJ, 8, .inr (.inl bg))), (ax, .inl (cJ, 48, .inr (.inl (u3.2)))), (aw, .inl (cJ, 64, .inr (.inl y4))), (an, .inl (cJ, 8, .inr (.inl y5))), (av, .inl (cJ, 8, .inr (.inl y6))), (aa, .inl (cI, 8, .inl y7))]) hD hS hA [0, 1, 2, 3, 4, 5, 6, 7] rfl
      refine va_callv (va_runV (As := []) (rest := []) ⟨hx, hb, hml, hown, hts⟩ (c_MO_hashText l dC dI cI cJ h af ak ar ag ad ac ab ax aw an av aa _ t0 le lo da (u3.1) kc bg (u3.2) y4 y5 y6 y7 (by rw [← hu3]; exact sz_ok (mo_add 20 (by rw [← hu2]; exact mo_row 4 16 (by rw [← hu1]; exact mo_cnt 0 4 hJ.1 (by decide)) (by decide))) (by decide))) ⟨callB_of 0 hts (bc_good gw_601) rfl rfl rfl (hts _ gw_6) (hts _ gw_599) (by decide +kernel) ⟨Nat.le_of_ble_eq_true rfl, Nat.le_of_ble_eq_true rfl⟩, (hts _ gw_600), (hts _ gw_714)⟩ ⟨bc_blind, va_recv (q0 := 0) hK hP (q := (R_MO, F_MO, 17)) rfl rfl, fun U hU hW => ⟨rfl, bc_give hPc hDc hK hE hS hFc U hU hW⟩⟩ rfl rfl hl.1 rfl (lv_room (Nat.le_of_ble_eq_true rfl)) d_MO_quote_62 ⟨Nat.le_of_ble_eq_true rfl, Nat.le_of_ble_eq_true rfl⟩) hS (fun q _ h => hFc q h) hFc (fun u t H9 locs ht hvm hp hB hz1 hk1 hS => ?_)
      obtain ⟨hP, hD⟩ := va_join (wr := [(ar, .inl (cI, 2, .inl rn)), (ag, .inl (cI, 16, .inl rg))]) (w1 := [(h, .inr (5, [.int t0, .ref af, .ref ak, .ref ar, .ref ag, .int le, .int lo, .int da, .ref ad, .ref ac, .ref ab, .int ((f_MO_hashText t0 le lo da (u3.1) kc bg (u3.2) y4 y5 y6 y7).1), .ref ax, .ref aw, .ref an, .ref av, .ref aa])), (ac, .inl (cJ, 64, .inr (.inl kc))), (ab, .inl (cJ, 8, .inr (.inl bg))), (ax, .inl (cJ, 48, .inr (.inl ((f_MO_hashText t0 le lo da (u3.1) kc bg (u3.2) y4 y5 y6 y7).2.1)))), (aw, .inl (cJ, 64, .inr (.inl ((f_MO_hashText t0 le lo da (u3.1) kc bg (u3.2) y4 y5 y6 y7).2.2.1)))), (an, .inl (cJ, 8, .inr (.inl ((f_MO_hashText t0 le lo da (u3.1) kc bg (u3.2) y4 y5 y6 y7).2.2.2.1)))), (av, .inl (cJ, 8, .inr (.inl ((f_MO_hashText t0 le lo da (u3.1) kc bg (u3.2) y4 y5 y6 y7).2.2.2.2.1)))), (aa, .inl (cI, 8, .inl ((f_MO_hashText t0 le lo da (u3.1) kc bg (u3.2) y4 y5 y6 y7).2.2.2.2.2)))]) hP hD [0, 1, 2, 3, 4, 5, 6, 7] [8, 9] rfl rfl (by decide) (by decide) hk1 hFc (ht ▸ hB.1) hB.2.2
      have hP := hP.sub (ws' := [(h, .inr (5, [.int t0, .ref af, .ref ak, .ref ar, .ref ag, .int le, .int lo, .int da, .ref ad, .ref ac, .ref ab, .int ((f_MO_hashText t0 le lo da (u3.1) kc bg (u3.2) y4 y5 y6 y7).1), .ref ax, .ref aw, .ref an, .ref av, .ref aa])), (ac, .inl (cJ, 64, .inr (.inl kc))), (ab, .inl (cJ, 8, .inr (.inl bg))), (ax, .inl (cJ, 48, .inr (.inl ((f_MO_hashText t0 le lo da (u3.1) kc bg (u3.2) y4 y5 y6 y7).2.1)))), (aw, .inl (cJ, 64, .inr (.inl ((f_MO_hashText t0 le lo da (u3.1) kc bg (u3.2) y4 y5 y6 y7).2.2.1)))), (an, .inl (cJ, 8, .inr (.inl ((f_MO_hashText t0 le lo da (u3.1) kc bg (u3.2) y4 y5 y6 y7).2.2.2.1)))), (av, .inl (cJ, 8, .inr (.inl ((f_MO_hashText t0 le lo da (u3.1) kc bg (u3.2) y4 y5 y6 y7).2.2.2.2.1)))), (aa, .inl (cI, 8, .inl ((f_MO_hashText t0 le lo da (u3.1) kc bg (u3.2) y4 y5 y6 y7).2.2.2.2.2))), (ar, .inl (cI, 2, .inl rn)), (ag, .inl (cI, 16, .inl rg))]) [2, 3, 4, 5, 6, 7, 8, 9, 0, 1] rfl
      have hD := hD.sub (ws' := [(h, .inr (5, [.int t0, .ref af, .ref ak, .ref ar, .ref ag, .int le, .int lo, .int da, .ref ad, .ref ac, .ref ab, .int ((f_MO_hashText t0 le lo da (u3.1) kc bg (u3.2) y4 y5 y6 y7).1), .ref ax, .ref aw, .ref an, .ref av, .ref aa])), (ac, .inl (cJ, 64, .inr (.inl kc))), (ab, .inl (cJ, 8, .inr (.inl bg))), (ax, .inl (cJ, 48, .inr (.inl ((f_MO_hashText t0 le lo da (u3.1) kc bg (u3.2) y4 y5 y6 y7).2.1)))), (aw, .inl (cJ, 64, .inr (.inl ((f_MO_hashText t0 le lo da (u3.1) kc bg (u3.2) y4 y5 y6 y7).2.2.1)))), (an, .inl (cJ, 8, .inr (.inl ((f_MO_hashText t0 le lo da (u3.1) kc bg (u3.2) y4 y5 y6 y7).2.2.2.1)))), (av, .inl (cJ, 8, .inr (.inl ((f_MO_hashText t0 le lo da (u3.1) kc bg (u3.2) y4 y5 y6 y7).2.2.2.2.1)))), (aa, .inl (cI, 8, .inl ((f_MO_hashText t0 le lo da (u3.1) kc bg (u3.2) y4 y5 y6 y7).2.2.2.2.2))), (ar, .inl (cI, 2, .inl rn)), (ag, .inl (cI, 16, .inl rg))]) [2, 3, 4, 5, 6, 7, 8, 9, 0, 1] (by decide) rfl
      generalize H9 = H at hP hS ⊢
      have e0 : (f_MO_quote_c3 no wd th le lo da si kc bg tx wi nw vv aw_ rn rg t0 y0_0 y0_11 y3 y4 y5 y6 y7 u1 u2 u3) = f_MO_quote_c4 no wd th le lo da si kc bg tx wi nw vv aw_ rn rg t0 y0_0 y0_11 y3 y4 y5 y6 y7 u1 u2 u3 (f_MO_hashText t0 le lo da (u3.1) kc bg (u3.2) y4 y5 y6 y7) := by rw [f_MO_quote_c3]
      rw [e0]
      generalize hu4 : (f_MO_hashText t0 le lo da (u3.1) kc bg (u3.2) y4 y5 y6 y7) = u4 at hP hD ⊢
      have hP : va_P (dC, dI) classes [(h, .inr (5, [.int t0, .ref af, .ref ak, .ref ar, .ref ag, .int le, .int lo, .int da, .ref ad, .ref ac, .ref ab, .int (u4.1), .ref ax, .ref aw, .ref an, .ref av, .ref aa])), (ac, .inl (cJ, 64, .inr (.inl kc))), (ab, .inl (cJ, 8, .inr (.inl bg))), (ax, .inl (cJ, 48, .inr (.inl (u4.2.1)))), (aw, .inl (cJ, 64, .inr (.inl (u4.2.2.1)))), (an, .inl (cJ, 8, .inr (.inl (u4.2.2.2.1)))), (av, .inl (cJ, 8, .inr (.inl (u4.2.2.2.2.1)))), (aa, .inl (cI, 8, .inl (u4.2.2.2.2.2))), (ar, .inl (cI, 2, .inl rn)), (ag, .inl (cI, 16, .inl rg))] H := hP
      have hD : va_D A [(h, .inr (5, [.int t0, .ref af, .ref ak, .ref ar, .ref ag, .int le, .int lo, .int da, .ref ad, .ref ac, .ref ab, .int (u4.1), .ref ax, .ref aw, .ref an, .ref av, .ref aa])), (ac, .inl (cJ, 64, .inr (.inl kc))), (ab, .inl (cJ, 8, .inr (.inl bg))), (ax, .inl (cJ, 48, .inr (.inl (u4.2.1)))), (aw, .inl (cJ, 64, .inr (.inl (u4.2.2.1)))), (an, .inl (cJ, 8, .inr (.inl (u4.2.2.2.1)))), (av, .inl (cJ, 8, .inr (.inl (u4.2.2.2.2.1)))), (aa, .inl (cI, 8, .inl (u4.2.2.2.2.2))), (ar, .inl (cI, 2, .inl rn)), (ag, .inl (cI, 16, .inl rg))] := hD
      refine lv_aload_n hx hb d_MO_quote_65 rfl (lv_at hl 0 rfl) ?_
      refine va_get (D := (dC, dI)) (ci := 5) (v := .ref aa) (C := R_MO) (T := F_MO) (N := 17) hx hb hts in_MO hown hK hP 0 rfl rfl 16 (by decide) (hts _ gw_534) (fun _ h9 => h9) rfl d_MO_quote_66 ?_
      refine lv_iload_n hx hb d_MO_quote_69 rfl (lv_at hl 2 rfl) ?_
      refine va_iald hx hb hK hP 7 0 rfl rfl (by exact ix_hw (hJ.2 (by assumption))) d_MO_quote_70 ?_
      have e0 : (f_MO_quote_c4 no wd th le lo da si kc bg tx wi nw vv aw_ rn rg t0 y0_0 y0_11 y3 y4 y5 y6 y7 u1 u2 u3 u4) = (((u4.2.2.2.2.2) (wd).toNatClampNeg), t0, (u4.1), (u4.2.1), (u4.2.2.1), (u4.2.2.2.1), (u4.2.2.2.2.1), (u4.2.2.2.2.2)) := by rw [f_MO_quote_c4]
      rw [e0]
      exact W.iret (v := ((u4.2.2.2.2.2) (wd).toNatClampNeg)) hx hb hr (fun t ht hW => ⟨⟨((u4.2.2.2.2.2) (wd).toNatClampNeg), (), rfl, rfl, by rw [ht]; exact hP, va_K.moved hW.alike hK, hD⟩, hS.F ht⟩) hS.2.2 d_MO_quote_71
    · refine lv_iconst (v := 0) hx hb d_MO_quote_36 (by decide) ?_
      have e0 : (f_MO_quote_j26 no wd th le lo da si kc bg tx wi nw vv aw_ rn rg t0 y0_0 y0_11 y3 y4 y5 y6 y7) = ((0 : Int32), t0, y0_11, y3, y4, y5, y6, y7) := by rw [f_MO_quote_j26, if_neg h6]
      rw [e0]
      exact W.iret (v := (0 : Int32)) hx hb hr (fun t ht hW => ⟨⟨(0 : Int32), (), rfl, rfl, by rw [ht]; exact hP, va_K.moved hW.alike hK, hD⟩, hS.F ht⟩) hS.2.2 d_MO_quote_37
  have hl := lv_entry ([.ref h, .int no, .int wd]) (n := 3) (Nat.le_of_ble_eq_true rfl)
  rw [lg_entry_eq]
  generalize (lg_sl ([.ref h, .int no, .int wd]) ++ List.replicate (3 - (lg_sl ([.ref h, .int no, .int wd])).length) Slot.unset).toArray = ls at hl ⊢
  have hl : lv_has ls 3 [(0, .ref h), (1, .int no), (2, .int wd)] := hl
  refine lv_aload_n hx hb d_MO_quote_0 rfl (lv_at hl 0 rfl) ?_
  refine lv_iload_n hx hb d_MO_quote_1 rfl (lv_at hl 2 rfl) ?_
  refine lv_bipush (v := 8) hx hb d_MO_quote_2 (by decide) ?_
  have hPc := hP.sub (ws' := []) [] rfl
  have hDc := hD.sub (ws' := []) [] (by decide) rfl
  have hFc := va_free (wc := []) hD hS hA [] rfl
  refine va_calli (va_runS (As := [.int wd, .int (8 : Int32)]) (rest := [.ref h]) ⟨hx, hb, hml, hown, hts⟩ (c_MO_out l dC dI cI cJ _ wd (8 : Int32)) ⟨callB_of 2 hts (bc_good gw_569) rfl rfl rfl (hts _ gw_6) (hts _ gw_567) (by decide +kernel) ⟨Nat.le_of_ble_eq_true rfl, Nat.le_of_ble_eq_true rfl⟩, (hts _ gw_568)⟩ ⟨bc_blind, fun U hU hW => ⟨rfl, bc_give hPc hDc hK hE hS hFc U hU hW⟩⟩ rfl rfl hl.1 rfl (lv_room (Nat.le_of_ble_eq_true rfl)) d_MO_quote_4 ⟨Nat.le_of_ble_eq_true rfl, Nat.le_of_ble_eq_true rfl⟩) hS (fun q _ h => hFc q h) hFc (fun r u t H9 locs ht hvm hp hB hz1 hk1 hS => ?_)
  subst hp
  obtain ⟨hP, hD⟩ := va_join (wr := [(h, .inr (5, [.int th, .ref af, .ref ak, .ref ar, .ref ag, .int le, .int lo, .int da, .ref ad, .ref ac, .ref ab, .int si, .ref ax, .ref aw, .ref an, .ref av, .ref aa])), (ac, .inl (cJ, 64, .inr (.inl kc))), (ab, .inl (cJ, 8, .inr (.inl bg))), (ax, .inl (cJ, 48, .inr (.inl tx))), (aw, .inl (cJ, 64, .inr (.inl wi))), (an, .inl (cJ, 8, .inr (.inl nw))), (av, .inl (cJ, 8, .inr (.inl vv))), (aa, .inl (cI, 8, .inl aw_)), (ar, .inl (cI, 2, .inl rn)), (ag, .inl (cI, 16, .inl rg))]) (w1 := []) hP hD [] [0, 1, 2, 3, 4, 5, 6, 7, 8, 9] rfl rfl (by decide) (by decide) hk1 hFc (ht ▸ hB.1) hB.2.2
  have hP := hP.sub (ws' := [(h, .inr (5, [.int th, .ref af, .ref ak, .ref ar, .ref ag, .int le, .int lo, .int da, .ref ad, .ref ac, .ref ab, .int si, .ref ax, .ref aw, .ref an, .ref av, .ref aa])), (ac, .inl (cJ, 64, .inr (.inl kc))), (ab, .inl (cJ, 8, .inr (.inl bg))), (ax, .inl (cJ, 48, .inr (.inl tx))), (aw, .inl (cJ, 64, .inr (.inl wi))), (an, .inl (cJ, 8, .inr (.inl nw))), (av, .inl (cJ, 8, .inr (.inl vv))), (aa, .inl (cI, 8, .inl aw_)), (ar, .inl (cI, 2, .inl rn)), (ag, .inl (cI, 16, .inl rg))]) [0, 1, 2, 3, 4, 5, 6, 7, 8, 9] rfl
  have hD := hD.sub (ws' := [(h, .inr (5, [.int th, .ref af, .ref ak, .ref ar, .ref ag, .int le, .int lo, .int da, .ref ad, .ref ac, .ref ab, .int si, .ref ax, .ref aw, .ref an, .ref av, .ref aa])), (ac, .inl (cJ, 64, .inr (.inl kc))), (ab, .inl (cJ, 8, .inr (.inl bg))), (ax, .inl (cJ, 48, .inr (.inl tx))), (aw, .inl (cJ, 64, .inr (.inl wi))), (an, .inl (cJ, 8, .inr (.inl nw))), (av, .inl (cJ, 8, .inr (.inl vv))), (aa, .inl (cI, 8, .inl aw_)), (ar, .inl (cI, 2, .inl rn)), (ag, .inl (cI, 16, .inl rg))]) [0, 1, 2, 3, 4, 5, 6, 7, 8, 9] (by decide) rfl
  generalize H9 = H at hP hS ⊢
  refine lv_if_eq (tgt := 14) hx hb d_MO_quote_7 (by decide) (fun h4 => ?_) (fun h4 => ?_)
  · refine lv_aload_n hx hb d_MO_quote_14 rfl (lv_at hl 0 rfl) ?_
    have hPc := hP.sub (ws' := [(h, .inr (5, [.int th, .ref af, .ref ak, .ref ar, .ref ag, .int le, .int lo, .int da, .ref ad, .ref ac, .ref ab, .int si, .ref ax, .ref aw, .ref an, .ref av, .ref aa])), (ar, .inl (cI, 2, .inl rn))]) [0, 8] rfl
    have hDc := hD.sub (ws' := [(h, .inr (5, [.int th, .ref af, .ref ak, .ref ar, .ref ag, .int le, .int lo, .int da, .ref ad, .ref ac, .ref ab, .int si, .ref ax, .ref aw, .ref an, .ref av, .ref aa])), (ar, .inl (cI, 2, .inl rn))]) [0, 8] (by decide) rfl
    have hFc := va_free (wc := [(h, .inr (5, [.int th, .ref af, .ref ak, .ref ar, .ref ag, .int le, .int lo, .int da, .ref ad, .ref ac, .ref ab, .int si, .ref ax, .ref aw, .ref an, .ref av, .ref aa])), (ar, .inl (cI, 2, .inl rn))]) hD hS hA [0, 8] rfl
    refine va_calli (va_runV (As := []) (rest := [.ref h]) ⟨hx, hb, hml, hown, hts⟩ (c_MO_both l dC dI cI cJ h af ak ar ag ad ac ab ax aw an av aa _ th le lo da si rn) ⟨callB_of 0 hts (bc_good gw_652) rfl rfl rfl (hts _ gw_6) (hts _ gw_650) (by decide +kernel) ⟨Nat.le_of_ble_eq_true rfl, Nat.le_of_ble_eq_true rfl⟩, (hts _ gw_651), (hts _ gw_724)⟩ ⟨bc_blind, va_recv (q0 := 0) hK hP (q := (R_MO, F_MO, 17)) rfl rfl, fun U hU hW => ⟨rfl, bc_give hPc hDc hK hE hS hFc U hU hW⟩⟩ rfl rfl hl.1 rfl (lv_room (Nat.le_of_ble_eq_true rfl)) d_MO_quote_15 ⟨Nat.le_of_ble_eq_true rfl, Nat.le_of_ble_eq_true rfl⟩) hS (fun q _ h => hFc q h) hFc (fun r u t H9 locs ht hvm hp hB hz1 hk1 hS => ?_)
    subst hp
    obtain ⟨hP, hD⟩ := va_join (wr := [(ac, .inl (cJ, 64, .inr (.inl kc))), (ab, .inl (cJ, 8, .inr (.inl bg))), (ax, .inl (cJ, 48, .inr (.inl tx))), (aw, .inl (cJ, 64, .inr (.inl wi))), (an, .inl (cJ, 8, .inr (.inl nw))), (av, .inl (cJ, 8, .inr (.inl vv))), (aa, .inl (cI, 8, .inl aw_)), (ag, .inl (cI, 16, .inl rg))]) (w1 := [(h, .inr (5, [.int th, .ref af, .ref ak, .ref ar, .ref ag, .int le, .int lo, .int da, .ref ad, .ref ac, .ref ab, .int si, .ref ax, .ref aw, .ref an, .ref av, .ref aa])), (ar, .inl (cI, 2, .inl rn))]) hP hD [0, 8] [1, 2, 3, 4, 5, 6, 7, 9] rfl rfl (by decide) (by decide) hk1 hFc (ht ▸ hB.1) hB.2.2
    have hP := hP.sub (ws' := [(h, .inr (5, [.int th, .ref af, .ref ak, .ref ar, .ref ag, .int le, .int lo, .int da, .ref ad, .ref ac, .ref ab, .int si, .ref ax, .ref aw, .ref an, .ref av, .ref aa])), (ac, .inl (cJ, 64, .inr (.inl kc))), (ab, .inl (cJ, 8, .inr (.inl bg))), (ax, .inl (cJ, 48, .inr (.inl tx))), (aw, .inl (cJ, 64, .inr (.inl wi))), (an, .inl (cJ, 8, .inr (.inl nw))), (av, .inl (cJ, 8, .inr (.inl vv))), (aa, .inl (cI, 8, .inl aw_)), (ar, .inl (cI, 2, .inl rn)), (ag, .inl (cI, 16, .inl rg))]) [8, 0, 1, 2, 3, 4, 5, 6, 9, 7] rfl
    have hD := hD.sub (ws' := [(h, .inr (5, [.int th, .ref af, .ref ak, .ref ar, .ref ag, .int le, .int lo, .int da, .ref ad, .ref ac, .ref ab, .int si, .ref ax, .ref aw, .ref an, .ref av, .ref aa])), (ac, .inl (cJ, 64, .inr (.inl kc))), (ab, .inl (cJ, 8, .inr (.inl bg))), (ax, .inl (cJ, 48, .inr (.inl tx))), (aw, .inl (cJ, 64, .inr (.inl wi))), (an, .inl (cJ, 8, .inr (.inl nw))), (av, .inl (cJ, 8, .inr (.inl vv))), (aa, .inl (cI, 8, .inl aw_)), (ar, .inl (cI, 2, .inl rn)), (ag, .inl (cI, 16, .inl rg))]) [8, 0, 1, 2, 3, 4, 5, 6, 9, 7] (by decide) rfl
    generalize H9 = H at hP hS ⊢
    refine lv_if_ne (tgt := 25) hx hb d_MO_quote_18 (by decide) (fun h5 => ?_) (fun h5 => ?_)
    · refine lv_iconst (v := 0) hx hb d_MO_quote_25 (by decide) ?_
      have e0 : (f_MO_quote no wd th le lo da si kc bg tx wi nw vv aw_ rn rg) = f_MO_quote_j26 no wd th le lo da si kc bg tx wi nw vv aw_ rn rg (0 : Int32) th si tx wi nw vv aw_ := by rw [f_MO_quote, if_pos h4, if_neg h5]
      rw [e0]
      exact jn_26 (0 : Int32) th si tx wi nw vv aw_ _ _ ls ⟨hsi, by first | exact fun _ => out_ok (by assumption) | exact fun h => absurd h (by decide)⟩ (lv_sub hl [0, 1, 2] rfl) hP hD hS
    · refine lv_iconst (v := 2) hx hb d_MO_quote_21 (by decide) ?_
      refine lv_goto (tgt := 26) hx hb d_MO_quote_22 (by decide) ?_
      have e0 : (f_MO_quote no wd th le lo da si kc bg tx wi nw vv aw_ rn rg) = f_MO_quote_j26 no wd th le lo da si kc bg tx wi nw vv aw_ rn rg (2 : Int32) th si tx wi nw vv aw_ := by rw [f_MO_quote, if_pos h4, if_pos h5]
      rw [e0]
      exact jn_26 (2 : Int32) th si tx wi nw vv aw_ _ _ ls ⟨hsi, by first | exact fun _ => out_ok (by assumption) | exact fun h => absurd h (by decide)⟩ (lv_sub hl [0, 1, 2] rfl) hP hD hS
  · refine lv_iconst (v := 1) hx hb d_MO_quote_10 (by decide) ?_
    refine lv_goto (tgt := 26) hx hb d_MO_quote_11 (by decide) ?_
    have e0 : (f_MO_quote no wd th le lo da si kc bg tx wi nw vv aw_ rn rg) = f_MO_quote_j26 no wd th le lo da si kc bg tx wi nw vv aw_ rn rg (1 : Int32) th si tx wi nw vv aw_ := by rw [f_MO_quote, if_neg h4]
    rw [e0]
    exact jn_26 (1 : Int32) th si tx wi nw vv aw_ _ _ ls ⟨hsi, by first | exact fun _ => out_ok (by assumption) | exact fun h => absurd h (by decide)⟩ (lv_sub hl [0, 1, 2] rfl) hP hD hS
-- MO_hash
theorem d_MO_hash_0 : decode prog_8_method_39_code 0 = .ok (.aload_n 0, 1) := by decide +kernel
theorem d_MO_hash_1 : decode prog_8_method_39_code 1 = .ok (.iload_n 2, 1) := by decide +kernel
theorem d_MO_hash_2 : decode prog_8_method_39_code 2 = .ok (.bipush 25, 2) := by decide +kernel
theorem d_MO_hash_4 : decode prog_8_method_39_code 4 = .ok (.invokestatic 256, 3) := by decide +kernel
theorem d_MO_hash_7 : decode prog_8_method_39_code 7 = .ok (.ifCond .ne 12, 3) := by decide +kernel
theorem d_MO_hash_10 : decode prog_8_method_39_code 10 = .ok (.iload_n 3, 1) := by decide +kernel
theorem d_MO_hash_11 : decode prog_8_method_39_code 11 = .ok (.bipush 8, 2) := by decide +kernel
theorem d_MO_hash_13 : decode prog_8_method_39_code 13 = .ok (.invokestatic 256, 3) := by decide +kernel
theorem d_MO_hash_16 : decode prog_8_method_39_code 16 = .ok (.ifCond .eq 7, 3) := by decide +kernel
theorem d_MO_hash_19 : decode prog_8_method_39_code 19 = .ok (.iconst 1, 1) := by decide +kernel
theorem d_MO_hash_20 : decode prog_8_method_39_code 20 = .ok (.goto 4, 3) := by decide +kernel
theorem d_MO_hash_23 : decode prog_8_method_39_code 23 = .ok (.iconst 0, 1) := by decide +kernel
theorem d_MO_hash_24 : decode prog_8_method_39_code 24 = .ok (.putfield 195, 3) := by decide +kernel
theorem d_MO_hash_27 : decode prog_8_method_39_code 27 = .ok (.aload_n 0, 1) := by decide +kernel
theorem d_MO_hash_28 : decode prog_8_method_39_code 28 = .ok (.getfield 195, 3) := by decide +kernel
theorem d_MO_hash_31 : decode prog_8_method_39_code 31 = .ok (.ifCond .le 5, 3) := by decide +kernel
theorem d_MO_hash_34 : decode prog_8_method_39_code 34 = .ok (.iconst 0, 1) := by decide +kernel
theorem d_MO_hash_35 : decode prog_8_method_39_code 35 = .ok (.ireturn, 1) := by decide +kernel
theorem d_MO_hash_36 : decode prog_8_method_39_code 36 = .ok (.aload_n 0, 1) := by decide +kernel
theorem d_MO_hash_37 : decode prog_8_method_39_code 37 = .ok (.iload_n 1, 1) := by decide +kernel
theorem d_MO_hash_38 : decode prog_8_method_39_code 38 = .ok (.iload_n 2, 1) := by decide +kernel
theorem d_MO_hash_39 : decode prog_8_method_39_code 39 = .ok (.invokevirtual 233, 3) := by decide +kernel
theorem d_MO_hash_42 : decode prog_8_method_39_code 42 = .ok (.aload_n 0, 1) := by decide +kernel
theorem d_MO_hash_43 : decode prog_8_method_39_code 43 = .ok (.invokevirtual 240, 3) := by decide +kernel
theorem d_MO_hash_46 : decode prog_8_method_39_code 46 = .ok (.aload_n 0, 1) := by decide +kernel
theorem d_MO_hash_47 : decode prog_8_method_39_code 47 = .ok (.getfield 48, 3) := by decide +kernel
theorem d_MO_hash_50 : decode prog_8_method_39_code 50 = .ok (.iload_n 3, 1) := by decide +kernel
theorem d_MO_hash_51 : decode prog_8_method_39_code 51 = .ok (.iaload, 1) := by decide +kernel
theorem d_MO_hash_52 : decode prog_8_method_39_code 52 = .ok (.ireturn, 1) := by decide +kernel
def y_MO_hash : MethodName := ⟨"BootChainModel", "hash", "(III)I"⟩
def ws_MO_hash : List Cond := .code y_MO_hash prog_8_method_39_code 4 (some .int) :: bc_G
def f_MO_hash_c2 (fi : Int32) (co : Int32) (wd : Int32) (th : Int32) (le : Int32) (lo : Int32) (da : Int32) (si : Int32) (kc : Nat → Int64) (bg : Nat → Int64) (tx : Nat → Int64) (wi : Nat → Int64) (nw : Nat → Int64) (vv : Nat → Int64) (aw_ : Nat → Int32) (t0 : Int32) (y0_0 : Int32) (y0_11 : Int32) (y3 : Nat → Int64) (y4 : Nat → Int64) (y5 : Nat → Int64) (y6 : Nat → Int64) (y7 : Nat → Int32) (u1 : Int32 × (Nat → Int64)) (u2 : Int32 × (Nat → Int64) × (Nat → Int64) × (Nat → Int64) × (Nat → Int64) × (Nat → Int32)) : Int32 × Int32 × Int32 × (Nat → Int64) × (Nat → Int64) × (Nat → Int64) × (Nat → Int64) × (Nat → Int32) := (((u2.2.2.2.2.2) (wd).toNatClampNeg), t0, (u2.1), (u2.2.1), (u2.2.2.1), (u2.2.2.2.1), (u2.2.2.2.2.1), (u2.2.2.2.2.2))
def f_MO_hash_c1 (fi : Int32) (co : Int32) (wd : Int32) (th : Int32) (le : Int32) (lo : Int32) (da : Int32) (si : Int32) (kc : Nat → Int64) (bg : Nat → Int64) (tx : Nat → Int64) (wi : Nat → Int64) (nw : Nat → Int64) (vv : Nat → Int64) (aw_ : Nat → Int32) (t0 : Int32) (y0_0 : Int32) (y0_11 : Int32) (y3 : Nat → Int64) (y4 : Nat → Int64) (y5 : Nat → Int64) (y6 : Nat → Int64) (y7 : Nat → Int32) (u1 : Int32 × (Nat → Int64)) : Int32 × Int32 × Int32 × (Nat → Int64) × (Nat → Int64) × (Nat → Int64) × (Nat → Int64) × (Nat → Int32) := f_MO_hash_c2 fi co wd th le lo da si kc bg tx wi nw vv aw_ t0 y0_0 y0_11 y3 y4 y5 y6 y7 u1 (f_MO_hashText t0 le lo da (u1.1) kc bg (u1.2) y4 y5 y6 y7)
def f_MO_hash_j24 (fi : Int32) (co : Int32) (wd : Int32) (th : Int32) (le : Int32) (lo : Int32) (da : Int32) (si : Int32) (kc : Nat → Int64) (bg : Nat → Int64) (tx : Nat → Int64) (wi : Nat → Int64) (nw : Nat → Int64) (vv : Nat → Int64) (aw_ : Nat → Int32) (t0 : Int32) (y0_0 : Int32) (y0_11 : Int32) (y3 : Nat → Int64) (y4 : Nat → Int64) (y5 : Nat → Int64) (y6 : Nat → Int64) (y7 : Nat → Int32) : Int32 × Int32 × Int32 × (Nat → Int64) × (Nat → Int64) × (Nat → Int64) × (Nat → Int64) × (Nat → Int32) := if t0 ≤ 0 then f_MO_hash_c1 fi co wd th le lo da si kc bg tx wi nw vv aw_ t0 y0_0 y0_11 y3 y4 y5 y6 y7 (f_MO_addCount fi co t0 le lo da y0_11 y3) else ((0 : Int32), t0, y0_11, y3, y4, y5, y6, y7)
def f_MO_hash (fi : Int32) (co : Int32) (wd : Int32) (th : Int32) (le : Int32) (lo : Int32) (da : Int32) (si : Int32) (kc : Nat → Int64) (bg : Nat → Int64) (tx : Nat → Int64) (wi : Nat → Int64) (nw : Nat → Int64) (vv : Nat → Int64) (aw_ : Nat → Int32) : Int32 × Int32 × Int32 × (Nat → Int64) × (Nat → Int64) × (Nat → Int64) × (Nat → Int64) × (Nat → Int32) := if (f_MO_out co (25 : Int32)) = 0 then if (f_MO_out wd (8 : Int32)) = 0 then f_MO_hash_j24 fi co wd th le lo da si kc bg tx wi nw vv aw_ (0 : Int32) th si tx wi nw vv aw_ else f_MO_hash_j24 fi co wd th le lo da si kc bg tx wi nw vv aw_ (1 : Int32) th si tx wi nw vv aw_ else f_MO_hash_j24 fi co wd th le lo da si kc bg tx wi nw vv aw_ (1 : Int32) th si tx wi nw vv aw_
set_option maxHeartbeats 4000000 in
set_option maxRecDepth 100000 in
theorem c_MO_hash (l : Launch) (dC : Nat → ClassId) (dI : Nat → Nat → Nat) (cI cJ : ClassId) (h af ak ar ag ad ac ab ax aw an av aa : Nat) (sz : Nat) (fi : Int32) (co : Int32) (wd : Int32) (th : Int32) (le : Int32) (lo : Int32) (da : Int32) (si : Int32) (kc : Nat → Int64) (bg : Nat → Int64) (tx : Nat → Int64) (wi : Nat → Int64) (nw : Nat → Int64) (vv : Nat → Int64) (aw_ : Nat → Int32) (hsi : si = 0) : Met l y_MO_hash ws_MO_hash ({ frames := 3, cells := 0, slots := 0, locals := 84 } : Room) (va_Pc [.ref h, .int fi, .int co, .int wd] (bc_pre (dC, dI) cI cJ [(h, .inr (5, [.int th, .ref af, .ref ak, .ref ar, .ref ag, .int le, .int lo, .int da, .ref ad, .ref ac, .ref ab, .int si, .ref ax, .ref aw, .ref an, .ref av, .ref aa])), (ac, .inl (cJ, 64, .inr (.inl kc))), (ab, .inl (cJ, 8, .inr (.inl bg))), (ax, .inl (cJ, 48, .inr (.inl tx))), (aw, .inl (cJ, 64, .inr (.inl wi))), (an, .inl (cJ, 8, .inr (.inl nw))), (av, .inl (cJ, 8, .inr (.inl vv))), (aa, .inl (cI, 8, .inl aw_))] sz)) (va_Qi (fun (r : Int32) (_ : Unit) => r = (f_MO_hash fi co wd th le lo da si kc bg tx wi nw vv aw_).1) (fun _ => bc_post (dC, dI) cI cJ (va_A [(h, .inr (5, [.int th, .ref af, .ref ak, .ref ar, .ref ag, .int le, .int lo, .int da, .ref ad, .ref ac, .ref ab, .int si, .ref ax, .ref aw, .ref an, .ref av, .ref aa])), (ac, .inl (cJ, 64, .inr (.inl kc))), (ab, .inl (cJ, 8, .inr (.inl bg))), (ax, .inl (cJ, 48, .inr (.inl tx))), (aw, .inl (cJ, 64, .inr (.inl wi))), (an, .inl (cJ, 8, .inr (.inl nw))), (av, .inl (cJ, 8, .inr (.inl vv))), (aa, .inl (cI, 8, .inl aw_))] sz) [(h, .inr (5, [.int (f_MO_hash fi co wd th le lo da si kc bg tx wi nw vv aw_).2.1, .ref af, .ref ak, .ref ar, .ref ag, .int le, .int lo, .int da, .ref ad, .ref ac, .ref ab, .int (f_MO_hash fi co wd th le lo da si kc bg tx wi nw vv aw_).2.2.1, .ref ax, .ref aw, .ref an, .ref av, .ref aa])), (ac, .inl (cJ, 64, .inr (.inl kc))), (ab, .inl (cJ, 8, .inr (.inl bg))), (ax, .inl (cJ, 48, .inr (.inl (f_MO_hash fi co wd th le lo da si kc bg tx wi nw vv aw_).2.2.2.1))), (aw, .inl (cJ, 64, .inr (.inl (f_MO_hash fi co wd th le lo da si kc bg tx wi nw vv aw_).2.2.2.2.1))), (an, .inl (cJ, 8, .inr (.inl (f_MO_hash fi co wd th le lo da si kc bg tx wi nw vv aw_).2.2.2.2.2.1))), (av, .inl (cJ, 8, .inr (.inl (f_MO_hash fi co wd th le lo da si kc bg tx wi nw vv aw_).2.2.2.2.2.2.1))), (aa, .inl (cI, 8, .inl (f_MO_hash fi co wd th le lo da si kc bg tx wi nw vv aw_).2.2.2.2.2.2.2))]) (va_A [(h, .inr (5, [.int th, .ref af, .ref ak, .ref ar, .ref ag, .int le, .int lo, .int da, .ref ad, .ref ac, .ref ab, .int si, .ref ax, .ref aw, .ref an, .ref av, .ref aa])), (ac, .inl (cJ, 64, .inr (.inl kc))), (ab, .inl (cJ, 8, .inr (.inl bg))), (ax, .inl (cJ, 48, .inr (.inl tx))), (aw, .inl (cJ, 64, .inr (.inl wi))), (an, .inl (cJ, 8, .inr (.inl nw))), (av, .inl (cJ, 8, .inr (.inl vv))), (aa, .inl (cI, 8, .inl aw_))] sz)) 0 0 (va_A [(h, .inr (5, [.int th, .ref af, .ref ak, .ref ar, .ref ag, .int le, .int lo, .int da, .ref ad, .ref ac, .ref ab, .int si, .ref ax, .ref aw, .ref an, .ref av, .ref aa])), (ac, .inl (cJ, 64, .inr (.inl kc))), (ab, .inl (cJ, 8, .inr (.inl bg))), (ax, .inl (cJ, 48, .inr (.inl tx))), (aw, .inl (cJ, 64, .inr (.inl wi))), (an, .inl (cJ, 8, .inr (.inl nw))), (av, .inl (cJ, 8, .inr (.inl vv))), (aa, .inl (cI, 8, .inl aw_))] sz) := by
  refine Met.ofW (cc := prog_8_method_39_code) (maxL := 4) (ret := (some .int)) (by decide) rfl ?_
  intro p e s m args below meth c s₁ B hml hv
  obtain ⟨rfl, hsz, hP, hK, hD0, hE⟩ := hv
  have hx := B.exec
  have hb := B.bytes
  have hr := B.returns
  have hts : ∀ w ∈ bc_G, w.before ([.ref h, .int fi, .int co, .int wd] : List Value).toArray s = true := fun w h => atoms_spec (ws := ws_MO_hash) B.pre w (List.mem_cons_of_mem _ h)
  have hown : s.vm.findClass "BootChainModel" = some m.cls := findClass_of_methodNamed B.named
  have hlocks := B.notSynchronized
  subst hsz
  have hD := hD0.self (sz := s.heap.size)
  generalize hAe : va_A [(h, .inr (5, [.int th, .ref af, .ref ak, .ref ar, .ref ag, .int le, .int lo, .int da, .ref ad, .ref ac, .ref ab, .int si, .ref ax, .ref aw, .ref an, .ref av, .ref aa])), (ac, .inl (cJ, 64, .inr (.inl kc))), (ab, .inl (cJ, 8, .inr (.inl bg))), (ax, .inl (cJ, 48, .inr (.inl tx))), (aw, .inl (cJ, 64, .inr (.inl wi))), (an, .inl (cJ, 8, .inr (.inl nw))), (av, .inl (cJ, 8, .inr (.inl vv))), (aa, .inl (cI, 8, .inl aw_))] s.heap.size = A at hD hE ⊢
  have hA : ∀ q : Nat, s.heap.size ≤ q → A q := fun q h => by rw [← hAe]; exact Or.inr h
  have hS : va_S A s.heap s.heap [] := va_S.rf
  have jn_24 : ∀ (t0 : Int32) (y0_0 : Int32) (y0_11 : Int32) (y3 : Nat → Int64) (y4 : Nat → Int64) (y5 : Nat → Int64) (y6 : Nat → Int64) (y7 : Nat → Int32) (H : Heap) (locs : List Loc) (ls : Array Slot), (y0_11 = 0 ∧ (t0 ≤ 0 → ((0 ≤ co ∧ ¬ 25 ≤ co) ∧ (0 ≤ wd ∧ ¬ 8 ≤ wd)))) → lv_has ls 4 [(0, .ref h), (1, .int fi), (2, .int co), (3, .int wd)] → va_P (dC, dI) classes [(h, .inr (5, [.int y0_0, .ref af, .ref ak, .ref ar, .ref ag, .int le, .int lo, .int da, .ref ad, .ref ac, .ref ab, .int y0_11, .ref ax, .ref aw, .ref an, .ref av, .ref aa])), (ac, .inl (cJ, 64, .inr (.inl kc))), (ab, .inl (cJ, 8, .inr (.inl bg))), (ax, .inl (cJ, 48, .inr (.inl y3))), (aw, .inl (cJ, 64, .inr (.inl y4))), (an, .inl (cJ, 8, .inr (.inl y5))), (av, .inl (cJ, 8, .inr (.inl y6))), (aa, .inl (cI, 8, .inl y7))] H → va_D A [(h, .inr (5, [.int y0_0, .ref af, .ref ak, .ref ar, .ref ag, .int le, .int lo, .int da, .ref ad, .ref ac, .ref ab, .int y0_11, .ref ax, .ref aw, .ref an, .ref av, .ref aa])), (ac, .inl (cJ, 64, .inr (.inl kc))), (ab, .inl (cJ, 8, .inr (.inl bg))), (ax, .inl (cJ, 48, .inr (.inl y3))), (aw, .inl (cJ, 64, .inr (.inl y4))), (an, .inl (cJ, 8, .inr (.inl y5))), (av, .inl (cJ, 8, .inr (.inl y6))), (aa, .inl (cI, 8, .inl y7))] → va_S A s.heap H locs → W p l e (headSpec ws_MO_hash ({ frames := 3, cells := 0, slots := 0, locals := 84 } : Room)).room s m ([.ref h, .int fi, .int co, .int wd] : List Value).toArray below meth c H locs 0 0 (MQ below (va_Qi (fun (r : Int32) (_ : Unit) => r = (f_MO_hash_j24 fi co wd th le lo da si kc bg tx wi nw vv aw_ t0 y0_0 y0_11 y3 y4 y5 y6 y7).1) (fun _ => bc_post (dC, dI) cI cJ A [(h, .inr (5, [.int (f_MO_hash_j24 fi co wd th le lo da si kc bg tx wi nw vv aw_ t0 y0_0 y0_11 y3 y4 y5 y6 y7).2.1, .ref af, .ref ak, .ref ar, .ref ag, .int le, .int lo, .int da, .ref ad, .ref ac, .ref ab, .int (f_MO_hash_j24 fi co wd th le lo da si kc bg tx wi nw vv aw_ t0 y0_0 y0_11 y3 y4 y5 y6 y7).2.2.1, .ref ax, .ref aw, .ref an, .ref av, .ref aa])), (ac, .inl (cJ, 64, .inr (.inl kc))), (ab, .inl (cJ, 8, .inr (.inl bg))), (ax, .inl (cJ, 48, .inr (.inl (f_MO_hash_j24 fi co wd th le lo da si kc bg tx wi nw vv aw_ t0 y0_0 y0_11 y3 y4 y5 y6 y7).2.2.2.1))), (aw, .inl (cJ, 64, .inr (.inl (f_MO_hash_j24 fi co wd th le lo da si kc bg tx wi nw vv aw_ t0 y0_0 y0_11 y3 y4 y5 y6 y7).2.2.2.2.1))), (an, .inl (cJ, 8, .inr (.inl (f_MO_hash_j24 fi co wd th le lo da si kc bg tx wi nw vv aw_ t0 y0_0 y0_11 y3 y4 y5 y6 y7).2.2.2.2.2.1))), (av, .inl (cJ, 8, .inr (.inl (f_MO_hash_j24 fi co wd th le lo da si kc bg tx wi nw vv aw_ t0 y0_0 y0_11 y3 y4 y5 y6 y7).2.2.2.2.2.2.1))), (aa, .inl (cI, 8, .inl (f_MO_hash_j24 fi co wd th le lo da si kc bg tx wi nw vv aw_ t0 y0_0 y0_11 y3 y4 y5 y6 y7).2.2.2.2.2.2.2))]) A) ([.ref h, .int fi, .int co, .int wd] : List Value).toArray s 0 0 A) (F0 m 24 ls [.int t0, .ref h]) := by
    intro t0 y0_0 y0_11 y3 y4 y5 y6 y7 H locs ls hJ hl hP hD hS
    refine va_put (D := (dC, dI)) (ci := 5) (v := .int t0) (ty := .int) (C := R_MO) (T := F_MO) (N := 17) hx hb hts in_MO t_MO t_MO_ok n_MO hown hK hP hD hS 0 rfl rfl 0 (by decide) (hts _ gw_518) (fun _ h9 => h9) rfl (by decide +kernel) rfl rfl (Nat.le_of_ble_eq_true rfl) d_MO_hash_24 (fun H locs hP hD hS => ?_)
    have hP : va_P (dC, dI) classes [(h, .inr (5, [.int t0, .ref af, .ref ak, .ref ar, .ref ag, .int le, .int lo, .int da, .ref ad, .ref ac, .ref ab, .int y0_11, .ref ax, .ref aw, .ref an, .ref av, .ref aa])), (ac, .inl (cJ, 64, .inr (.inl kc))), (ab, .inl (cJ, 8, .inr (.inl bg))), (ax, .inl (cJ, 48, .inr (.inl y3))), (aw, .inl (cJ, 64, .inr (.inl y4))), (an, .inl (cJ, 8, .inr (.inl y5))), (av, .inl (cJ, 8, .inr (.inl y6))), (aa, .inl (cI, 8, .inl y7))] H := hP
    have hD : va_D A [(h, .inr (5, [.int t0, .ref af, .ref ak, .ref ar, .ref ag, .int le, .int lo, .int da, .ref ad, .ref ac, .ref ab, .int y0_11, .ref ax, .ref aw, .ref an, .ref av, .ref aa])), (ac, .inl (cJ, 64, .inr (.inl kc))), (ab, .inl (cJ, 8, .inr (.inl bg))), (ax, .inl (cJ, 48, .inr (.inl y3))), (aw, .inl (cJ, 64, .inr (.inl y4))), (an, .inl (cJ, 8, .inr (.inl y5))), (av, .inl (cJ, 8, .inr (.inl y6))), (aa, .inl (cI, 8, .inl y7))] := hD
    refine lv_aload_n hx hb d_MO_hash_27 rfl (lv_at hl 0 rfl) ?_
    refine va_get (D := (dC, dI)) (ci := 5) (v := .int t0) (C := R_MO) (T := F_MO) (N := 17) hx hb hts in_MO hown hK hP 0 rfl rfl 0 (by decide) (hts _ gw_518) (fun _ h9 => h9) rfl d_MO_hash_28 ?_
    refine lv_if_le (tgt := 36) hx hb d_MO_hash_31 (by decide) (fun h6 => ?_) (fun h6 => ?_)
    · refine lv_aload_n hx hb d_MO_hash_36 rfl (lv_at hl 0 rfl) ?_
      refine lv_iload_n hx hb d_MO_hash_37 rfl (lv_at hl 1 rfl) ?_
      refine lv_iload_n hx hb d_MO_hash_38 rfl (lv_at hl 2 rfl) ?_
      have hPc := hP.sub (ws' := [(h, .inr (5, [.int t0, .ref af, .ref ak, .ref ar, .ref ag, .int le, .int lo, .int da, .ref ad, .ref ac, .ref ab, .int y0_11, .ref ax, .ref aw, .ref an, .ref av, .ref aa])), (ax, .inl (cJ, 48, .inr (.inl y3)))]) [0, 3] rfl
      have hDc := hD.sub (ws' := [(h, .inr (5, [.int t0, .ref af, .ref ak, .ref ar, .ref ag, .int le, .int lo, .int da, .ref ad, .ref ac, .ref ab, .int y0_11, .ref ax, .ref aw, .ref an, .ref av, .ref aa])), (ax, .inl (cJ, 48, .inr (.inl y3)))]) [0, 3] (by decide) rfl
      have hFc := va_free (wc := [(h, .inr (5, [.int t0, .ref af, .ref ak, .ref ar, .ref ag, .int le, .int lo, .int da, .ref ad, .ref ac, .ref ab, .int y0_11, .ref ax, .ref aw, .ref an, .ref av, .ref aa])), (ax, .inl (cJ, 48, .inr (.inl y3)))]) hD hS hA [0, 3] rfl
      refine va_callv (va_runV (As := [.int fi, .int co]) (rest := []) ⟨hx, hb, hml, hown, hts⟩ (c_MO_addCount l dC dI cI cJ h af ak ar ag ad ac ab ax aw an av aa _ fi co t0 le lo da y0_11 y3 (ad_w hJ.1 (hJ.2 (by assumption)).1)) ⟨callB_of 2 hts (bc_good gw_588) rfl rfl rfl (hts _ gw_6) (hts _ gw_586) (by decide +kernel) ⟨Nat.le_of_ble_eq_true rfl, Nat.le_of_ble_eq_true rfl⟩, (hts _ gw_587), (hts _ gw_710)⟩ ⟨bc_blind, va_recv (q0 := 0) hK hP (q := (R_MO, F_MO, 17)) rfl rfl, fun U hU hW => ⟨rfl, bc_give hPc hDc hK hE hS hFc U hU hW⟩⟩ rfl rfl hl.1 rfl (lv_room (Nat.le_of_ble_eq_true rfl)) d_MO_hash_39 ⟨Nat.le_of_ble_eq_true rfl, Nat.le_of_ble_eq_true rfl⟩) hS (fun q _ h => hFc q h) hFc (fun u t H9 locs ht hvm hp hB hz1 hk1 hS => ?_)
      obtain ⟨hP, hD⟩ := va_join (wr := [(ac, .inl (cJ, 64, .inr (.inl kc))), (ab, .inl (cJ, 8, .inr (.inl bg))), (aw, .inl (cJ, 64, .inr (.inl y4))), (an, .inl (cJ, 8, .inr (.inl y5))), (av, .inl (cJ, 8, .inr (.inl y6))), (aa, .inl (cI, 8, .inl y7))]) (w1 := [(h, .inr (5, [.int t0, .ref af, .ref ak, .ref ar, .ref ag, .int le, .int lo, .int da, .ref ad, .ref ac, .ref ab, .int ((f_MO_addCount fi co t0 le lo da y0_11 y3).1), .ref ax, .ref aw, .ref an, .ref av, .ref aa])), (ax, .inl (cJ, 48, .inr (.inl ((f_MO_addCount fi co t0 le lo da y0_11 y3).2))))]) hP hD [0, 3] [1, 2, 4, 5, 6, 7] rfl rfl (by decide) (by decide) hk1 hFc (ht ▸ hB.1) hB.2.2
      have hP := hP.sub (ws' := [(h, .inr (5, [.int t0, .ref af, .ref ak, .ref ar, .ref ag, .int le, .int lo, .int da, .ref ad, .ref ac, .ref ab, .int ((f_MO_addCount fi co t0 le lo da y0_11 y3).1), .ref ax, .ref aw, .ref an, .ref av, .ref aa])), (ac, .inl (cJ, 64, .inr (.inl kc))), (ab, .inl (cJ, 8, .inr (.inl bg))), (ax, .inl (cJ, 48, .inr (.inl ((f_MO_addCount fi co t0 le lo da y0_11 y3).2)))), (aw, .inl (cJ, 64, .inr (.inl y4))), (an, .inl (cJ, 8, .inr (.inl y5))), (av, .inl (cJ, 8, .inr (.inl y6))), (aa, .inl (cI, 8, .inl y7))]) [6, 0, 1, 7, 2, 3, 4, 5] rfl
      have hD := hD.sub (ws' := [(h, .inr (5, [.int t0, .ref af, .ref ak, .ref ar, .ref ag, .int le, .int lo, .int da, .ref ad, .ref ac, .ref ab, .int ((f_MO_addCount fi co t0 le lo da y0_11 y3).1), .ref ax, .ref aw, .ref an, .ref av, .ref aa])), (ac, .inl (cJ, 64, .inr (.inl kc))), (ab, .inl (cJ, 8, .inr (.inl bg))), (ax, .inl (cJ, 48, .inr (.inl ((f_MO_addCount fi co t0 le lo da y0_11 y3).2)))), (aw, .inl (cJ, 64, .inr (.inl y4))), (an, .inl (cJ, 8, .inr (.inl y5))), (av, .inl (cJ, 8, .inr (.inl y6))), (aa, .inl (cI, 8, .inl y7))]) [6, 0, 1, 7, 2, 3, 4, 5] (by decide) rfl
      generalize H9 = H at hP hS ⊢
      have e0 : (f_MO_hash_j24 fi co wd th le lo da si kc bg tx wi nw vv aw_ t0 y0_0 y0_11 y3 y4 y5 y6 y7) = f_MO_hash_c1 fi co wd th le lo da si kc bg tx wi nw vv aw_ t0 y0_0 y0_11 y3 y4 y5 y6 y7 (f_MO_addCount fi co t0 le lo da y0_11 y3) := by rw [f_MO_hash_j24, if_pos h6]
      rw [e0]
      generalize hu1 : (f_MO_addCount fi co t0 le lo da y0_11 y3) = u1 at hP hD ⊢
      have hP : va_P (dC, dI) classes [(h, .inr (5, [.int t0, .ref af, .ref ak, .ref ar, .ref ag, .int le, .int lo, .int da, .ref ad, .ref ac, .ref ab, .int (u1.1), .ref ax, .ref aw, .ref an, .ref av, .ref aa])), (ac, .inl (cJ, 64, .inr (.inl kc))), (ab, .inl (cJ, 8, .inr (.inl bg))), (ax, .inl (cJ, 48, .inr (.inl (u1.2)))), (aw, .inl (cJ, 64, .inr (.inl y4))), (an, .inl (cJ, 8, .inr (.inl y5))), (av, .inl (cJ, 8, .inr (.inl y6))), (aa, .inl (cI, 8, .inl y7))] H := hP
      have hD : va_D A [(h, .inr (5, [.int t0, .ref af, .ref ak, .ref ar, .ref ag, .int le, .int lo, .int da, .ref ad, .ref ac, .ref ab, .int (u1.1), .ref ax, .ref aw, .ref an, .ref av, .ref aa])), (ac, .inl (cJ, 64, .inr (.inl kc))), (ab, .inl (cJ, 8, .inr (.inl bg))), (ax, .inl (cJ, 48, .inr (.inl (u1.2)))), (aw, .inl (cJ, 64, .inr (.inl y4))), (an, .inl (cJ, 8, .inr (.inl y5))), (av, .inl (cJ, 8, .inr (.inl y6))), (aa, .inl (cI, 8, .inl y7))] := hD
      refine lv_aload_n hx hb d_MO_hash_42 rfl (lv_at hl 0 rfl) ?_
      have hPc := hP.sub (ws' := [(h, .inr (5, [.int t0, .ref af, .ref ak, .ref ar, .ref ag, .int le, .int lo, .int da, .ref ad, .ref ac, .ref ab, .int (u1.1), .ref ax, .ref aw, .ref an, .ref av, .ref aa])), (ac, .inl (cJ, 64, .inr (.inl kc))), (ab, .inl (cJ, 8, .inr (.inl bg))), (ax, .inl (cJ, 48, .inr (.inl (u1.2)))), (aw, .inl (cJ, 64, .inr (.inl y4))), (an, .inl (cJ, 8, .inr (.inl y5))), (av, .inl (cJ, 8, .inr (.inl y6))), (aa, .inl (cI, 8, .inl y7))]) [0, 1, 2, 3, 4, 5, 6, 7] rfl
      have hDc := hD.sub (ws' := [(h, .inr (5, [.int t0, .ref af, .ref ak, .ref ar, .ref ag, .int le, .int lo, .int da, .ref ad, .ref ac, .ref ab, .int (u1.1), .ref ax, .ref aw, .ref an, .ref av, .ref aa])), (ac, .inl (cJ, 64, .inr (.inl kc))), (ab, .inl (cJ, 8, .inr (.inl bg))), (ax, .inl (cJ, 48, .inr (.inl (u1.2)))), (aw, .inl (cJ, 64, .inr (.inl y4))), (an, .inl (cJ, 8, .inr (.inl y5))), (av, .inl (cJ, 8, .inr (.inl y6))), (aa, .inl (cI, 8, .inl y7))]) [0, 1, 2, 3, 4, 5, 6, 7] (by decide) rfl
      have hFc := va_free (wc := [(h, .inr (5, [.int t0, .ref af, .ref ak, .ref ar, .ref ag, .int le, .int lo, .int da, .ref ad, .ref ac, .ref ab, .int (u1.1), .ref ax, .ref aw, .ref an, .ref av, .ref aa])), (ac, .inl (cJ, 64, .inr (.inl kc))), (ab, .inl (cJ, 8, .inr (.inl bg))), (ax, .inl (cJ, 48, .inr (.inl (u1.2)))), (aw, .inl (cJ, 64, .inr (.inl y4))), (an, .inl (cJ, 8, .inr (.inl y5))), (av, .inl (cJ, 8, .inr (.inl y6))), (aa, .inl (cI, 8, .inl y7))]) hD hS hA [0, 1, 2, 3, 4, 5, 6, 7] rfl
      refine va_callv (va_runV (As := []) (rest := []) ⟨hx, hb, hml, hown, hts⟩ (c_MO_hashText l dC dI cI cJ h af ak ar ag ad ac ab ax aw an av aa _ t0 le lo da (u1.1) kc bg (u1.2) y4 y5 y6 y7 (by rw [← hu1]; exact sz_w hJ.1 (hJ.2 (by assumption)).1)) ⟨callB_of 0 hts (bc_good gw_601) rfl rfl rfl (hts _ gw_6) (hts _ gw_599) (by decide +kernel) ⟨Nat.le_of_ble_eq_true rfl, Nat.le_of_ble_eq_true rfl⟩, (hts _ gw_600), (hts _ gw_714)⟩ ⟨bc_blind, va_recv (q0 := 0) hK hP (q := (R_MO, F_MO, 17)) rfl rfl, fun U hU hW => ⟨rfl, bc_give hPc hDc hK hE hS hFc U hU hW⟩⟩ rfl rfl hl.1 rfl (lv_room (Nat.le_of_ble_eq_true rfl)) d_MO_hash_43 ⟨Nat.le_of_ble_eq_true rfl, Nat.le_of_ble_eq_true rfl⟩) hS (fun q _ h => hFc q h) hFc (fun u t H9 locs ht hvm hp hB hz1 hk1 hS => ?_)
      obtain ⟨hP, hD⟩ := va_join (wr := []) (w1 := [(h, .inr (5, [.int t0, .ref af, .ref ak, .ref ar, .ref ag, .int le, .int lo, .int da, .ref ad, .ref ac, .ref ab, .int ((f_MO_hashText t0 le lo da (u1.1) kc bg (u1.2) y4 y5 y6 y7).1), .ref ax, .ref aw, .ref an, .ref av, .ref aa])), (ac, .inl (cJ, 64, .inr (.inl kc))), (ab, .inl (cJ, 8, .inr (.inl bg))), (ax, .inl (cJ, 48, .inr (.inl ((f_MO_hashText t0 le lo da (u1.1) kc bg (u1.2) y4 y5 y6 y7).2.1)))), (aw, .inl (cJ, 64, .inr (.inl ((f_MO_hashText t0 le lo da (u1.1) kc bg (u1.2) y4 y5 y6 y7).2.2.1)))), (an, .inl (cJ, 8, .inr (.inl ((f_MO_hashText t0 le lo da (u1.1) kc bg (u1.2) y4 y5 y6 y7).2.2.2.1)))), (av, .inl (cJ, 8, .inr (.inl ((f_MO_hashText t0 le lo da (u1.1) kc bg (u1.2) y4 y5 y6 y7).2.2.2.2.1)))), (aa, .inl (cI, 8, .inl ((f_MO_hashText t0 le lo da (u1.1) kc bg (u1.2) y4 y5 y6 y7).2.2.2.2.2)))]) hP hD [0, 1, 2, 3, 4, 5, 6, 7] [] rfl rfl (by decide) (by decide) hk1 hFc (ht ▸ hB.1) hB.2.2
      have hP := hP.sub (ws' := [(h, .inr (5, [.int t0, .ref af, .ref ak, .ref ar, .ref ag, .int le, .int lo, .int da, .ref ad, .ref ac, .ref ab, .int ((f_MO_hashText t0 le lo da (u1.1) kc bg (u1.2) y4 y5 y6 y7).1), .ref ax, .ref aw, .ref an, .ref av, .ref aa])), (ac, .inl (cJ, 64, .inr (.inl kc))), (ab, .inl (cJ, 8, .inr (.inl bg))), (ax, .inl (cJ, 48, .inr (.inl ((f_MO_hashText t0 le lo da (u1.1) kc bg (u1.2) y4 y5 y6 y7).2.1)))), (aw, .inl (cJ, 64, .inr (.inl ((f_MO_hashText t0 le lo da (u1.1) kc bg (u1.2) y4 y5 y6 y7).2.2.1)))), (an, .inl (cJ, 8, .inr (.inl ((f_MO_hashText t0 le lo da (u1.1) kc bg (u1.2) y4 y5 y6 y7).2.2.2.1)))), (av, .inl (cJ, 8, .inr (.inl ((f_MO_hashText t0 le lo da (u1.1) kc bg (u1.2) y4 y5 y6 y7).2.2.2.2.1)))), (aa, .inl (cI, 8, .inl ((f_MO_hashText t0 le lo da (u1.1) kc bg (u1.2) y4 y5 y6 y7).2.2.2.2.2)))]) [0, 1, 2, 3, 4, 5, 6, 7] rfl
      have hD := hD.sub (ws' := [(h, .inr (5, [.int t0, .ref af, .ref ak, .ref ar, .ref ag, .int le, .int lo, .int da, .ref ad, .ref ac, .ref ab, .int ((f_MO_hashText t0 le lo da (u1.1) kc bg (u1.2) y4 y5 y6 y7).1), .ref ax, .ref aw, .ref an, .ref av, .ref aa])), (ac, .inl (cJ, 64, .inr (.inl kc))), (ab, .inl (cJ, 8, .inr (.inl bg))), (ax, .inl (cJ, 48, .inr (.inl ((f_MO_hashText t0 le lo da (u1.1) kc bg (u1.2) y4 y5 y6 y7).2.1)))), (aw, .inl (cJ, 64, .inr (.inl ((f_MO_hashText t0 le lo da (u1.1) kc bg (u1.2) y4 y5 y6 y7).2.2.1)))), (an, .inl (cJ, 8, .inr (.inl ((f_MO_hashText t0 le lo da (u1.1) kc bg (u1.2) y4 y5 y6 y7).2.2.2.1)))), (av, .inl (cJ, 8, .inr (.inl ((f_MO_hashText t0 le lo da (u1.1) kc bg (u1.2) y4 y5 y6 y7).2.2.2.2.1)))), (aa, .inl (cI, 8, .inl ((f_MO_hashText t0 le lo da (u1.1) kc bg (u1.2) y4 y5 y6 y7).2.2.2.2.2)))]) [0, 1, 2, 3, 4, 5, 6, 7] (by decide) rfl
      generalize H9 = H at hP hS ⊢
      have e0 : (f_MO_hash_c1 fi co wd th le lo da si kc bg tx wi nw vv aw_ t0 y0_0 y0_11 y3 y4 y5 y6 y7 u1) = f_MO_hash_c2 fi co wd th le lo da si kc bg tx wi nw vv aw_ t0 y0_0 y0_11 y3 y4 y5 y6 y7 u1 (f_MO_hashText t0 le lo da (u1.1) kc bg (u1.2) y4 y5 y6 y7) := by rw [f_MO_hash_c1]
      rw [e0]
      generalize hu2 : (f_MO_hashText t0 le lo da (u1.1) kc bg (u1.2) y4 y5 y6 y7) = u2 at hP hD ⊢
      have hP : va_P (dC, dI) classes [(h, .inr (5, [.int t0, .ref af, .ref ak, .ref ar, .ref ag, .int le, .int lo, .int da, .ref ad, .ref ac, .ref ab, .int (u2.1), .ref ax, .ref aw, .ref an, .ref av, .ref aa])), (ac, .inl (cJ, 64, .inr (.inl kc))), (ab, .inl (cJ, 8, .inr (.inl bg))), (ax, .inl (cJ, 48, .inr (.inl (u2.2.1)))), (aw, .inl (cJ, 64, .inr (.inl (u2.2.2.1)))), (an, .inl (cJ, 8, .inr (.inl (u2.2.2.2.1)))), (av, .inl (cJ, 8, .inr (.inl (u2.2.2.2.2.1)))), (aa, .inl (cI, 8, .inl (u2.2.2.2.2.2)))] H := hP
      have hD : va_D A [(h, .inr (5, [.int t0, .ref af, .ref ak, .ref ar, .ref ag, .int le, .int lo, .int da, .ref ad, .ref ac, .ref ab, .int (u2.1), .ref ax, .ref aw, .ref an, .ref av, .ref aa])), (ac, .inl (cJ, 64, .inr (.inl kc))), (ab, .inl (cJ, 8, .inr (.inl bg))), (ax, .inl (cJ, 48, .inr (.inl (u2.2.1)))), (aw, .inl (cJ, 64, .inr (.inl (u2.2.2.1)))), (an, .inl (cJ, 8, .inr (.inl (u2.2.2.2.1)))), (av, .inl (cJ, 8, .inr (.inl (u2.2.2.2.2.1)))), (aa, .inl (cI, 8, .inl (u2.2.2.2.2.2)))] := hD
      refine lv_aload_n hx hb d_MO_hash_46 rfl (lv_at hl 0 rfl) ?_
      refine va_get (D := (dC, dI)) (ci := 5) (v := .ref aa) (C := R_MO) (T := F_MO) (N := 17) hx hb hts in_MO hown hK hP 0 rfl rfl 16 (by decide) (hts _ gw_534) (fun _ h9 => h9) rfl d_MO_hash_47 ?_
      refine lv_iload_n hx hb d_MO_hash_50 rfl (lv_at hl 3 rfl) ?_
      refine va_iald hx hb hK hP 7 0 rfl rfl (by exact ix_hw (hJ.2 (by assumption)).2) d_MO_hash_51 ?_
      have e0 : (f_MO_hash_c2 fi co wd th le lo da si kc bg tx wi nw vv aw_ t0 y0_0 y0_11 y3 y4 y5 y6 y7 u1 u2) = (((u2.2.2.2.2.2) (wd).toNatClampNeg), t0, (u2.1), (u2.2.1), (u2.2.2.1), (u2.2.2.2.1), (u2.2.2.2.2.1), (u2.2.2.2.2.2)) := by rw [f_MO_hash_c2]
      rw [e0]
      exact W.iret (v := ((u2.2.2.2.2.2) (wd).toNatClampNeg)) hx hb hr (fun t ht hW => ⟨⟨((u2.2.2.2.2.2) (wd).toNatClampNeg), (), rfl, rfl, by rw [ht]; exact hP, va_K.moved hW.alike hK, hD⟩, hS.F ht⟩) hS.2.2 d_MO_hash_52
    · refine lv_iconst (v := 0) hx hb d_MO_hash_34 (by decide) ?_
      have e0 : (f_MO_hash_j24 fi co wd th le lo da si kc bg tx wi nw vv aw_ t0 y0_0 y0_11 y3 y4 y5 y6 y7) = ((0 : Int32), t0, y0_11, y3, y4, y5, y6, y7) := by rw [f_MO_hash_j24, if_neg h6]
      rw [e0]
      exact W.iret (v := (0 : Int32)) hx hb hr (fun t ht hW => ⟨⟨(0 : Int32), (), rfl, rfl, by rw [ht]; exact hP, va_K.moved hW.alike hK, hD⟩, hS.F ht⟩) hS.2.2 d_MO_hash_35
  have hl := lv_entry ([.ref h, .int fi, .int co, .int wd]) (n := 4) (Nat.le_of_ble_eq_true rfl)
  rw [lg_entry_eq]
  generalize (lg_sl ([.ref h, .int fi, .int co, .int wd]) ++ List.replicate (4 - (lg_sl ([.ref h, .int fi, .int co, .int wd])).length) Slot.unset).toArray = ls at hl ⊢
  have hl : lv_has ls 4 [(0, .ref h), (1, .int fi), (2, .int co), (3, .int wd)] := hl
  refine lv_aload_n hx hb d_MO_hash_0 rfl (lv_at hl 0 rfl) ?_
  refine lv_iload_n hx hb d_MO_hash_1 rfl (lv_at hl 2 rfl) ?_
  refine lv_bipush (v := 25) hx hb d_MO_hash_2 (by decide) ?_
  have hPc := hP.sub (ws' := []) [] rfl
  have hDc := hD.sub (ws' := []) [] (by decide) rfl
  have hFc := va_free (wc := []) hD hS hA [] rfl
  refine va_calli (va_runS (As := [.int co, .int (25 : Int32)]) (rest := [.ref h]) ⟨hx, hb, hml, hown, hts⟩ (c_MO_out l dC dI cI cJ _ co (25 : Int32)) ⟨callB_of 2 hts (bc_good gw_569) rfl rfl rfl (hts _ gw_6) (hts _ gw_567) (by decide +kernel) ⟨Nat.le_of_ble_eq_true rfl, Nat.le_of_ble_eq_true rfl⟩, (hts _ gw_568)⟩ ⟨bc_blind, fun U hU hW => ⟨rfl, bc_give hPc hDc hK hE hS hFc U hU hW⟩⟩ rfl rfl hl.1 rfl (lv_room (Nat.le_of_ble_eq_true rfl)) d_MO_hash_4 ⟨Nat.le_of_ble_eq_true rfl, Nat.le_of_ble_eq_true rfl⟩) hS (fun q _ h => hFc q h) hFc (fun r u t H9 locs ht hvm hp hB hz1 hk1 hS => ?_)
  subst hp
  obtain ⟨hP, hD⟩ := va_join (wr := [(h, .inr (5, [.int th, .ref af, .ref ak, .ref ar, .ref ag, .int le, .int lo, .int da, .ref ad, .ref ac, .ref ab, .int si, .ref ax, .ref aw, .ref an, .ref av, .ref aa])), (ac, .inl (cJ, 64, .inr (.inl kc))), (ab, .inl (cJ, 8, .inr (.inl bg))), (ax, .inl (cJ, 48, .inr (.inl tx))), (aw, .inl (cJ, 64, .inr (.inl wi))), (an, .inl (cJ, 8, .inr (.inl nw))), (av, .inl (cJ, 8, .inr (.inl vv))), (aa, .inl (cI, 8, .inl aw_))]) (w1 := []) hP hD [] [0, 1, 2, 3, 4, 5, 6, 7] rfl rfl (by decide) (by decide) hk1 hFc (ht ▸ hB.1) hB.2.2
  have hP := hP.sub (ws' := [(h, .inr (5, [.int th, .ref af, .ref ak, .ref ar, .ref ag, .int le, .int lo, .int da, .ref ad, .ref ac, .ref ab, .int si, .ref ax, .ref aw, .ref an, .ref av, .ref aa])), (ac, .inl (cJ, 64, .inr (.inl kc))), (ab, .inl (cJ, 8, .inr (.inl bg))), (ax, .inl (cJ, 48, .inr (.inl tx))), (aw, .inl (cJ, 64, .inr (.inl wi))), (an, .inl (cJ, 8, .inr (.inl nw))), (av, .inl (cJ, 8, .inr (.inl vv))), (aa, .inl (cI, 8, .inl aw_))]) [0, 1, 2, 3, 4, 5, 6, 7] rfl
  have hD := hD.sub (ws' := [(h, .inr (5, [.int th, .ref af, .ref ak, .ref ar, .ref ag, .int le, .int lo, .int da, .ref ad, .ref ac, .ref ab, .int si, .ref ax, .ref aw, .ref an, .ref av, .ref aa])), (ac, .inl (cJ, 64, .inr (.inl kc))), (ab, .inl (cJ, 8, .inr (.inl bg))), (ax, .inl (cJ, 48, .inr (.inl tx))), (aw, .inl (cJ, 64, .inr (.inl wi))), (an, .inl (cJ, 8, .inr (.inl nw))), (av, .inl (cJ, 8, .inr (.inl vv))), (aa, .inl (cI, 8, .inl aw_))]) [0, 1, 2, 3, 4, 5, 6, 7] (by decide) rfl
  generalize H9 = H at hP hS ⊢
  refine lv_if_ne (tgt := 19) hx hb d_MO_hash_7 (by decide) (fun h4 => ?_) (fun h4 => ?_)
  · refine lv_iconst (v := 1) hx hb d_MO_hash_19 (by decide) ?_
    refine lv_goto (tgt := 24) hx hb d_MO_hash_20 (by decide) ?_
    have e0 : (f_MO_hash fi co wd th le lo da si kc bg tx wi nw vv aw_) = f_MO_hash_j24 fi co wd th le lo da si kc bg tx wi nw vv aw_ (1 : Int32) th si tx wi nw vv aw_ := by rw [f_MO_hash, if_neg h4]
    rw [e0]
    exact jn_24 (1 : Int32) th si tx wi nw vv aw_ _ _ ls ⟨hsi, by first | exact fun _ => ⟨out_ok (by assumption), out_ok (by assumption)⟩ | exact fun h => absurd h (by decide)⟩ (lv_sub hl [0, 1, 2, 3] rfl) hP hD hS
  · refine lv_iload_n hx hb d_MO_hash_10 rfl (lv_at hl 3 rfl) ?_
    refine lv_bipush (v := 8) hx hb d_MO_hash_11 (by decide) ?_
    have hPc := hP.sub (ws' := []) [] rfl
    have hDc := hD.sub (ws' := []) [] (by decide) rfl
    have hFc := va_free (wc := []) hD hS hA [] rfl
    refine va_calli (va_runS (As := [.int wd, .int (8 : Int32)]) (rest := [.ref h]) ⟨hx, hb, hml, hown, hts⟩ (c_MO_out l dC dI cI cJ _ wd (8 : Int32)) ⟨callB_of 2 hts (bc_good gw_569) rfl rfl rfl (hts _ gw_6) (hts _ gw_567) (by decide +kernel) ⟨Nat.le_of_ble_eq_true rfl, Nat.le_of_ble_eq_true rfl⟩, (hts _ gw_568)⟩ ⟨bc_blind, fun U hU hW => ⟨rfl, bc_give hPc hDc hK hE hS hFc U hU hW⟩⟩ rfl rfl hl.1 rfl (lv_room (Nat.le_of_ble_eq_true rfl)) d_MO_hash_13 ⟨Nat.le_of_ble_eq_true rfl, Nat.le_of_ble_eq_true rfl⟩) hS (fun q _ h => hFc q h) hFc (fun r u t H9 locs ht hvm hp hB hz1 hk1 hS => ?_)
    subst hp
    obtain ⟨hP, hD⟩ := va_join (wr := [(h, .inr (5, [.int th, .ref af, .ref ak, .ref ar, .ref ag, .int le, .int lo, .int da, .ref ad, .ref ac, .ref ab, .int si, .ref ax, .ref aw, .ref an, .ref av, .ref aa])), (ac, .inl (cJ, 64, .inr (.inl kc))), (ab, .inl (cJ, 8, .inr (.inl bg))), (ax, .inl (cJ, 48, .inr (.inl tx))), (aw, .inl (cJ, 64, .inr (.inl wi))), (an, .inl (cJ, 8, .inr (.inl nw))), (av, .inl (cJ, 8, .inr (.inl vv))), (aa, .inl (cI, 8, .inl aw_))]) (w1 := []) hP hD [] [0, 1, 2, 3, 4, 5, 6, 7] rfl rfl (by decide) (by decide) hk1 hFc (ht ▸ hB.1) hB.2.2
    have hP := hP.sub (ws' := [(h, .inr (5, [.int th, .ref af, .ref ak, .ref ar, .ref ag, .int le, .int lo, .int da, .ref ad, .ref ac, .ref ab, .int si, .ref ax, .ref aw, .ref an, .ref av, .ref aa])), (ac, .inl (cJ, 64, .inr (.inl kc))), (ab, .inl (cJ, 8, .inr (.inl bg))), (ax, .inl (cJ, 48, .inr (.inl tx))), (aw, .inl (cJ, 64, .inr (.inl wi))), (an, .inl (cJ, 8, .inr (.inl nw))), (av, .inl (cJ, 8, .inr (.inl vv))), (aa, .inl (cI, 8, .inl aw_))]) [0, 1, 2, 3, 4, 5, 6, 7] rfl
    have hD := hD.sub (ws' := [(h, .inr (5, [.int th, .ref af, .ref ak, .ref ar, .ref ag, .int le, .int lo, .int da, .ref ad, .ref ac, .ref ab, .int si, .ref ax, .ref aw, .ref an, .ref av, .ref aa])), (ac, .inl (cJ, 64, .inr (.inl kc))), (ab, .inl (cJ, 8, .inr (.inl bg))), (ax, .inl (cJ, 48, .inr (.inl tx))), (aw, .inl (cJ, 64, .inr (.inl wi))), (an, .inl (cJ, 8, .inr (.inl nw))), (av, .inl (cJ, 8, .inr (.inl vv))), (aa, .inl (cI, 8, .inl aw_))]) [0, 1, 2, 3, 4, 5, 6, 7] (by decide) rfl
    generalize H9 = H at hP hS ⊢
    refine lv_if_eq (tgt := 23) hx hb d_MO_hash_16 (by decide) (fun h5 => ?_) (fun h5 => ?_)
    · refine lv_iconst (v := 0) hx hb d_MO_hash_23 (by decide) ?_
      have e0 : (f_MO_hash fi co wd th le lo da si kc bg tx wi nw vv aw_) = f_MO_hash_j24 fi co wd th le lo da si kc bg tx wi nw vv aw_ (0 : Int32) th si tx wi nw vv aw_ := by rw [f_MO_hash, if_pos h4, if_pos h5]
      rw [e0]
      exact jn_24 (0 : Int32) th si tx wi nw vv aw_ _ _ ls ⟨hsi, by first | exact fun _ => ⟨out_ok (by assumption), out_ok (by assumption)⟩ | exact fun h => absurd h (by decide)⟩ (lv_sub hl [0, 1, 2, 3] rfl) hP hD hS
    · refine lv_iconst (v := 1) hx hb d_MO_hash_19 (by decide) ?_
      refine lv_goto (tgt := 24) hx hb d_MO_hash_20 (by decide) ?_
      have e0 : (f_MO_hash fi co wd th le lo da si kc bg tx wi nw vv aw_) = f_MO_hash_j24 fi co wd th le lo da si kc bg tx wi nw vv aw_ (1 : Int32) th si tx wi nw vv aw_ := by rw [f_MO_hash, if_pos h4, if_neg h5]
      rw [e0]
      exact jn_24 (1 : Int32) th si tx wi nw vv aw_ _ _ ls ⟨hsi, by first | exact fun _ => ⟨out_ok (by assumption), out_ok (by assumption)⟩ | exact fun h => absurd h (by decide)⟩ (lv_sub hl [0, 1, 2, 3] rfl) hP hD hS
-- MO_good
theorem d_MO_good_0 : decode prog_8_method_20_code 0 = .ok (.bipush 16, 2) := by decide +kernel
theorem d_MO_good_2 : decode prog_8_method_20_code 2 = .ok (.iload_n 1, 1) := by decide +kernel
theorem d_MO_good_3 : decode prog_8_method_20_code 3 = .ok (.imul, 1) := by decide +kernel
theorem d_MO_good_4 : decode prog_8_method_20_code 4 = .ok (.istore_n 2, 1) := by decide +kernel
theorem d_MO_good_5 : decode prog_8_method_20_code 5 = .ok (.iload_n 1, 1) := by decide +kernel
theorem d_MO_good_6 : decode prog_8_method_20_code 6 = .ok (.iconst 2, 1) := by decide +kernel
theorem d_MO_good_7 : decode prog_8_method_20_code 7 = .ok (.idiv, 1) := by decide +kernel
theorem d_MO_good_8 : decode prog_8_method_20_code 8 = .ok (.istore_n 3, 1) := by decide +kernel
theorem d_MO_good_9 : decode prog_8_method_20_code 9 = .ok (.aload_n 0, 1) := by decide +kernel
theorem d_MO_good_10 : decode prog_8_method_20_code 10 = .ok (.getfield 7, 3) := by decide +kernel
theorem d_MO_good_13 : decode prog_8_method_20_code 13 = .ok (.iload_n 2, 1) := by decide +kernel
theorem d_MO_good_14 : decode prog_8_method_20_code 14 = .ok (.iaload, 1) := by decide +kernel
theorem d_MO_good_15 : decode prog_8_method_20_code 15 = .ok (.sipush 255, 3) := by decide +kernel
theorem d_MO_good_18 : decode prog_8_method_20_code 18 = .ok (.iand, 1) := by decide +kernel
theorem d_MO_good_19 : decode prog_8_method_20_code 19 = .ok (.istore 4, 2) := by decide +kernel
theorem d_MO_good_21 : decode prog_8_method_20_code 21 = .ok (.aload_n 0, 1) := by decide +kernel
theorem d_MO_good_22 : decode prog_8_method_20_code 22 = .ok (.getfield 7, 3) := by decide +kernel
theorem d_MO_good_25 : decode prog_8_method_20_code 25 = .ok (.iload_n 2, 1) := by decide +kernel
theorem d_MO_good_26 : decode prog_8_method_20_code 26 = .ok (.iaload, 1) := by decide +kernel
theorem d_MO_good_27 : decode prog_8_method_20_code 27 = .ok (.bipush 16, 2) := by decide +kernel
theorem d_MO_good_29 : decode prog_8_method_20_code 29 = .ok (.ishr, 1) := by decide +kernel
theorem d_MO_good_30 : decode prog_8_method_20_code 30 = .ok (.ldc 243, 2) := by decide +kernel
theorem d_MO_good_32 : decode prog_8_method_20_code 32 = .ok (.iand, 1) := by decide +kernel
theorem d_MO_good_33 : decode prog_8_method_20_code 33 = .ok (.iload_n 3, 1) := by decide +kernel
theorem d_MO_good_34 : decode prog_8_method_20_code 34 = .ok (.if_icmp .ne 40, 3) := by decide +kernel
theorem d_MO_good_37 : decode prog_8_method_20_code 37 = .ok (.iload 4, 2) := by decide +kernel
theorem d_MO_good_39 : decode prog_8_method_20_code 39 = .ok (.bipush 24, 2) := by decide +kernel
theorem d_MO_good_41 : decode prog_8_method_20_code 41 = .ok (.if_icmp .gt 33, 3) := by decide +kernel
theorem d_MO_good_44 : decode prog_8_method_20_code 44 = .ok (.aload_n 0, 1) := by decide +kernel
theorem d_MO_good_45 : decode prog_8_method_20_code 45 = .ok (.getfield 7, 3) := by decide +kernel
theorem d_MO_good_48 : decode prog_8_method_20_code 48 = .ok (.iload_n 2, 1) := by decide +kernel
theorem d_MO_good_49 : decode prog_8_method_20_code 49 = .ok (.bipush 7, 2) := by decide +kernel
theorem d_MO_good_51 : decode prog_8_method_20_code 51 = .ok (.iadd, 1) := by decide +kernel
theorem d_MO_good_52 : decode prog_8_method_20_code 52 = .ok (.iaload, 1) := by decide +kernel
theorem d_MO_good_53 : decode prog_8_method_20_code 53 = .ok (.ifCond .ne 21, 3) := by decide +kernel
theorem d_MO_good_56 : decode prog_8_method_20_code 56 = .ok (.aload_n 0, 1) := by decide +kernel
theorem d_MO_good_57 : decode prog_8_method_20_code 57 = .ok (.iload_n 1, 1) := by decide +kernel
theorem d_MO_good_58 : decode prog_8_method_20_code 58 = .ok (.invokevirtual 244, 3) := by decide +kernel
theorem d_MO_good_61 : decode prog_8_method_20_code 61 = .ok (.aload_n 0, 1) := by decide +kernel
theorem d_MO_good_62 : decode prog_8_method_20_code 62 = .ok (.getfield 13, 3) := by decide +kernel
theorem d_MO_good_65 : decode prog_8_method_20_code 65 = .ok (.iload_n 3, 1) := by decide +kernel
theorem d_MO_good_66 : decode prog_8_method_20_code 66 = .ok (.iaload, 1) := by decide +kernel
theorem d_MO_good_67 : decode prog_8_method_20_code 67 = .ok (.if_icmp .lt 7, 3) := by decide +kernel
theorem d_MO_good_70 : decode prog_8_method_20_code 70 = .ok (.iconst 1, 1) := by decide +kernel
theorem d_MO_good_71 : decode prog_8_method_20_code 71 = .ok (.goto 4, 3) := by decide +kernel
theorem d_MO_good_74 : decode prog_8_method_20_code 74 = .ok (.iconst 0, 1) := by decide +kernel
theorem d_MO_good_75 : decode prog_8_method_20_code 75 = .ok (.istore 5, 2) := by decide +kernel
theorem d_MO_good_77 : decode prog_8_method_20_code 77 = .ok (.iload 4, 2) := by decide +kernel
theorem d_MO_good_79 : decode prog_8_method_20_code 79 = .ok (.istore 6, 2) := by decide +kernel
theorem d_MO_good_81 : decode prog_8_method_20_code 81 = .ok (.iload 6, 2) := by decide +kernel
theorem d_MO_good_83 : decode prog_8_method_20_code 83 = .ok (.bipush 24, 2) := by decide +kernel
theorem d_MO_good_85 : decode prog_8_method_20_code 85 = .ok (.if_icmp .ge 51, 3) := by decide +kernel
theorem d_MO_good_88 : decode prog_8_method_20_code 88 = .ok (.iload 5, 2) := by decide +kernel
theorem d_MO_good_90 : decode prog_8_method_20_code 90 = .ok (.ifCond .eq 46, 3) := by decide +kernel
theorem d_MO_good_93 : decode prog_8_method_20_code 93 = .ok (.aload_n 0, 1) := by decide +kernel
theorem d_MO_good_94 : decode prog_8_method_20_code 94 = .ok (.getfield 7, 3) := by decide +kernel
theorem d_MO_good_97 : decode prog_8_method_20_code 97 = .ok (.iload_n 2, 1) := by decide +kernel
theorem d_MO_good_98 : decode prog_8_method_20_code 98 = .ok (.iconst 1, 1) := by decide +kernel
theorem d_MO_good_99 : decode prog_8_method_20_code 99 = .ok (.iadd, 1) := by decide +kernel
theorem d_MO_good_100 : decode prog_8_method_20_code 100 = .ok (.iload 6, 2) := by decide +kernel
theorem d_MO_good_102 : decode prog_8_method_20_code 102 = .ok (.iconst 4, 1) := by decide +kernel
theorem d_MO_good_103 : decode prog_8_method_20_code 103 = .ok (.idiv, 1) := by decide +kernel
theorem d_MO_good_104 : decode prog_8_method_20_code 104 = .ok (.iadd, 1) := by decide +kernel
theorem d_MO_good_105 : decode prog_8_method_20_code 105 = .ok (.iaload, 1) := by decide +kernel
theorem d_MO_good_106 : decode prog_8_method_20_code 106 = .ok (.bipush 8, 2) := by decide +kernel
theorem d_MO_good_108 : decode prog_8_method_20_code 108 = .ok (.iconst 3, 1) := by decide +kernel
theorem d_MO_good_109 : decode prog_8_method_20_code 109 = .ok (.iload 6, 2) := by decide +kernel
theorem d_MO_good_111 : decode prog_8_method_20_code 111 = .ok (.iconst 4, 1) := by decide +kernel
theorem d_MO_good_112 : decode prog_8_method_20_code 112 = .ok (.irem, 1) := by decide +kernel
theorem d_MO_good_113 : decode prog_8_method_20_code 113 = .ok (.isub, 1) := by decide +kernel
theorem d_MO_good_114 : decode prog_8_method_20_code 114 = .ok (.imul, 1) := by decide +kernel
theorem d_MO_good_115 : decode prog_8_method_20_code 115 = .ok (.ishr, 1) := by decide +kernel
theorem d_MO_good_116 : decode prog_8_method_20_code 116 = .ok (.sipush 255, 3) := by decide +kernel
theorem d_MO_good_119 : decode prog_8_method_20_code 119 = .ok (.iand, 1) := by decide +kernel
theorem d_MO_good_120 : decode prog_8_method_20_code 120 = .ok (.ifCond .ne 7, 3) := by decide +kernel
theorem d_MO_good_123 : decode prog_8_method_20_code 123 = .ok (.iconst 1, 1) := by decide +kernel
theorem d_MO_good_124 : decode prog_8_method_20_code 124 = .ok (.goto 4, 3) := by decide +kernel
theorem d_MO_good_127 : decode prog_8_method_20_code 127 = .ok (.iconst 0, 1) := by decide +kernel
theorem d_MO_good_128 : decode prog_8_method_20_code 128 = .ok (.istore 5, 2) := by decide +kernel
theorem d_MO_good_130 : decode prog_8_method_20_code 130 = .ok (.iinc 6 1, 3) := by decide +kernel
theorem d_MO_good_133 : decode prog_8_method_20_code 133 = .ok (.goto (-52), 3) := by decide +kernel
theorem d_MO_good_136 : decode prog_8_method_20_code 136 = .ok (.iload 5, 2) := by decide +kernel
theorem d_MO_good_138 : decode prog_8_method_20_code 138 = .ok (.ifCond .ne 5, 3) := by decide +kernel
theorem d_MO_good_141 : decode prog_8_method_20_code 141 = .ok (.iconst 0, 1) := by decide +kernel
theorem d_MO_good_142 : decode prog_8_method_20_code 142 = .ok (.ireturn, 1) := by decide +kernel
theorem d_MO_good_143 : decode prog_8_method_20_code 143 = .ok (.aload_n 0, 1) := by decide +kernel
theorem d_MO_good_144 : decode prog_8_method_20_code 144 = .ok (.aload_n 0, 1) := by decide +kernel
theorem d_MO_good_145 : decode prog_8_method_20_code 145 = .ok (.getfield 7, 3) := by decide +kernel
theorem d_MO_good_148 : decode prog_8_method_20_code 148 = .ok (.iload_n 2, 1) := by decide +kernel
theorem d_MO_good_149 : decode prog_8_method_20_code 149 = .ok (.iload_n 3, 1) := by decide +kernel
theorem d_MO_good_150 : decode prog_8_method_20_code 150 = .ok (.invokevirtual 248, 3) := by decide +kernel
theorem d_MO_good_153 : decode prog_8_method_20_code 153 = .ok (.iconst 0, 1) := by decide +kernel
theorem d_MO_good_154 : decode prog_8_method_20_code 154 = .ok (.istore 6, 2) := by decide +kernel
theorem d_MO_good_156 : decode prog_8_method_20_code 156 = .ok (.iload 6, 2) := by decide +kernel
theorem d_MO_good_158 : decode prog_8_method_20_code 158 = .ok (.bipush 8, 2) := by decide +kernel
theorem d_MO_good_160 : decode prog_8_method_20_code 160 = .ok (.if_icmp .ge 43, 3) := by decide +kernel
theorem d_MO_good_163 : decode prog_8_method_20_code 163 = .ok (.iload 5, 2) := by decide +kernel
theorem d_MO_good_165 : decode prog_8_method_20_code 165 = .ok (.ifCond .eq 29, 3) := by decide +kernel
theorem d_MO_good_168 : decode prog_8_method_20_code 168 = .ok (.aload_n 0, 1) := by decide +kernel
theorem d_MO_good_169 : decode prog_8_method_20_code 169 = .ok (.getfield 48, 3) := by decide +kernel
theorem d_MO_good_172 : decode prog_8_method_20_code 172 = .ok (.iload 6, 2) := by decide +kernel
theorem d_MO_good_174 : decode prog_8_method_20_code 174 = .ok (.iaload, 1) := by decide +kernel
theorem d_MO_good_175 : decode prog_8_method_20_code 175 = .ok (.aload_n 0, 1) := by decide +kernel
theorem d_MO_good_176 : decode prog_8_method_20_code 176 = .ok (.getfield 7, 3) := by decide +kernel
theorem d_MO_good_179 : decode prog_8_method_20_code 179 = .ok (.iload_n 2, 1) := by decide +kernel
theorem d_MO_good_180 : decode prog_8_method_20_code 180 = .ok (.bipush 8, 2) := by decide +kernel
theorem d_MO_good_182 : decode prog_8_method_20_code 182 = .ok (.iadd, 1) := by decide +kernel
theorem d_MO_good_183 : decode prog_8_method_20_code 183 = .ok (.iload 6, 2) := by decide +kernel
theorem d_MO_good_185 : decode prog_8_method_20_code 185 = .ok (.iadd, 1) := by decide +kernel
theorem d_MO_good_186 : decode prog_8_method_20_code 186 = .ok (.iaload, 1) := by decide +kernel
theorem d_MO_good_187 : decode prog_8_method_20_code 187 = .ok (.if_icmp .ne 7, 3) := by decide +kernel
theorem d_MO_good_190 : decode prog_8_method_20_code 190 = .ok (.iconst 1, 1) := by decide +kernel
theorem d_MO_good_191 : decode prog_8_method_20_code 191 = .ok (.goto 4, 3) := by decide +kernel
theorem d_MO_good_194 : decode prog_8_method_20_code 194 = .ok (.iconst 0, 1) := by decide +kernel
theorem d_MO_good_195 : decode prog_8_method_20_code 195 = .ok (.istore 5, 2) := by decide +kernel
theorem d_MO_good_197 : decode prog_8_method_20_code 197 = .ok (.iinc 6 1, 3) := by decide +kernel
theorem d_MO_good_200 : decode prog_8_method_20_code 200 = .ok (.goto (-44), 3) := by decide +kernel
theorem d_MO_good_203 : decode prog_8_method_20_code 203 = .ok (.iload 5, 2) := by decide +kernel
theorem d_MO_good_205 : decode prog_8_method_20_code 205 = .ok (.ireturn, 1) := by decide +kernel
def y_MO_good : MethodName := ⟨"BootChainModel", "good", "(I)Z"⟩
def ws_MO_good : List Cond := .code y_MO_good prog_8_method_20_code 7 (some .boolean) :: bc_G
def f_MO_good_156 (so : Int32) (th : Int32) (le : Int32) (lo : Int32) (da : Int32) (si : Int32) (kc : Nat → Int64) (bg : Nat → Int64) (tx : Nat → Int64) (wi : Nat → Int64) (nw : Nat → Int64) (vv : Nat → Int64) (aw_ : Nat → Int32) (fl : Nat → Int32) (cn : Nat → Int32) : Nat → Int32 → Int32 → Int32 → Int32 → (Nat → Int64) → (Nat → Int64) → (Nat → Int64) → (Nat → Int64) → (Nat → Int32) → Int32 × Int32 × (Nat → Int64) × (Nat → Int64) × (Nat → Int64) × (Nat → Int64) × (Nat → Int32)
  | 0, x2, x5, x6, y0_11, y3, y4, y5, y6, y7 => (0, y0_11, y3, y4, y5, y6, y7)
  | n + 1, x2, x5, x6, y0_11, y3, y4, y5, y6, y7 => if (8 : Int32) ≤ x6 then (x5, y0_11, y3, y4, y5, y6, y7) else if x5 = 0 then f_MO_good_156 so th le lo da si kc bg tx wi nw vv aw_ fl cn n x2 (0 : Int32) (x6 + (1 : Int32)) y0_11 y3 y4 y5 y6 y7 else if (y7 (x6).toNatClampNeg) = (fl (((x2 + (8 : Int32)) + x6)).toNatClampNeg) then f_MO_good_156 so th le lo da si kc bg tx wi nw vv aw_ fl cn n x2 (1 : Int32) (x6 + (1 : Int32)) y0_11 y3 y4 y5 y6 y7 else f_MO_good_156 so th le lo da si kc bg tx wi nw vv aw_ fl cn n x2 (0 : Int32) (x6 + (1 : Int32)) y0_11 y3 y4 y5 y6 y7
def f_MO_good_c1 (rec : Int32 → Int32 → Int32 → Int32 → Int32 → (Nat → Int64) → (Nat → Int64) → (Nat → Int64) → (Nat → Int64) → (Nat → Int32) → Int32 × Int32 × (Nat → Int64) × (Nat → Int64) × (Nat → Int64) × (Nat → Int64) × (Nat → Int32)) (so : Int32) (th : Int32) (le : Int32) (lo : Int32) (da : Int32) (si : Int32) (kc : Nat → Int64) (bg : Nat → Int64) (tx : Nat → Int64) (wi : Nat → Int64) (nw : Nat → Int64) (vv : Nat → Int64) (aw_ : Nat → Int32) (fl : Nat → Int32) (cn : Nat → Int32) (x2 : Int32) (x3 : Int32) (x5 : Int32) (y0_11 : Int32) (y3 : Nat → Int64) (y4 : Nat → Int64) (y5 : Nat → Int64) (y6 : Nat → Int64) (y7 : Nat → Int32) (u1 : Int32 × (Nat → Int64) × (Nat → Int64) × (Nat → Int64) × (Nat → Int64) × (Nat → Int32)) : Int32 × Int32 × (Nat → Int64) × (Nat → Int64) × (Nat → Int64) × (Nat → Int64) × (Nat → Int32) := f_MO_good_156 so th le lo da si kc bg tx wi nw vv aw_ fl cn 9 x2 x5 (0 : Int32) (u1.1) (u1.2.1) (u1.2.2.1) (u1.2.2.2.1) (u1.2.2.2.2.1) (u1.2.2.2.2.2)
def f_MO_good_j136 (rec : Int32 → Int32 → Int32 → Int32 → Int32 → (Nat → Int64) → (Nat → Int64) → (Nat → Int64) → (Nat → Int64) → (Nat → Int32) → Int32 × Int32 × (Nat → Int64) × (Nat → Int64) × (Nat → Int64) × (Nat → Int64) × (Nat → Int32)) (so : Int32) (th : Int32) (le : Int32) (lo : Int32) (da : Int32) (si : Int32) (kc : Nat → Int64) (bg : Nat → Int64) (tx : Nat → Int64) (wi : Nat → Int64) (nw : Nat → Int64) (vv : Nat → Int64) (aw_ : Nat → Int32) (fl : Nat → Int32) (cn : Nat → Int32) (x2 : Int32) (x3 : Int32) (x5 : Int32) (y0_11 : Int32) (y3 : Nat → Int64) (y4 : Nat → Int64) (y5 : Nat → Int64) (y6 : Nat → Int64) (y7 : Nat → Int32) : Int32 × Int32 × (Nat → Int64) × (Nat → Int64) × (Nat → Int64) × (Nat → Int64) × (Nat → Int32) := if x5 = 0 then ((0 : Int32), y0_11, y3, y4, y5, y6, y7) else f_MO_good_c1 rec so th le lo da si kc bg tx wi nw vv aw_ fl cn x2 x3 x5 y0_11 y3 y4 y5 y6 y7 (f_MO_seal 70 x2 x3 th le lo da y0_11 kc bg y3 y4 y5 y6 y7 fl)
def f_MO_good_81 (so : Int32) (th : Int32) (le : Int32) (lo : Int32) (da : Int32) (si : Int32) (kc : Nat → Int64) (bg : Nat → Int64) (tx : Nat → Int64) (wi : Nat → Int64) (nw : Nat → Int64) (vv : Nat → Int64) (aw_ : Nat → Int32) (fl : Nat → Int32) (cn : Nat → Int32) : Nat → Int32 → Int32 → Int32 → Int32 → Int32 → (Nat → Int64) → (Nat → Int64) → (Nat → Int64) → (Nat → Int64) → (Nat → Int32) → Int32 × Int32 × (Nat → Int64) × (Nat → Int64) × (Nat → Int64) × (Nat → Int64) × (Nat → Int32)
  | 0, x2, x3, x5, x6, y0_11, y3, y4, y5, y6, y7 => (0, y0_11, y3, y4, y5, y6, y7)
  | n + 1, x2, x3, x5, x6, y0_11, y3, y4, y5, y6, y7 => if (24 : Int32) ≤ x6 then f_MO_good_j136 (f_MO_good_81 so th le lo da si kc bg tx wi nw vv aw_ fl cn n) so th le lo da si kc bg tx wi nw vv aw_ fl cn x2 x3 x5 y0_11 y3 y4 y5 y6 y7 else if x5 = 0 then f_MO_good_j136 (f_MO_good_81 so th le lo da si kc bg tx wi nw vv aw_ fl cn n) so th le lo da si kc bg tx wi nw vv aw_ fl cn x2 x3 x5 y0_11 y3 y4 y5 y6 y7 else if (((fl (((x2 + (1 : Int32)) + (x6 / (4 : Int32)))).toNatClampNeg) >>> (((8 : Int32) * ((3 : Int32) - (x6 - x6 / (4 : Int32) * (4 : Int32)))) &&& 31)) &&& (255 : Int32)) = 0 then f_MO_good_81 so th le lo da si kc bg tx wi nw vv aw_ fl cn n x2 x3 (1 : Int32) (x6 + (1 : Int32)) y0_11 y3 y4 y5 y6 y7 else f_MO_good_81 so th le lo da si kc bg tx wi nw vv aw_ fl cn n x2 x3 (0 : Int32) (x6 + (1 : Int32)) y0_11 y3 y4 y5 y6 y7
def f_MO_good (so : Int32) (th : Int32) (le : Int32) (lo : Int32) (da : Int32) (si : Int32) (kc : Nat → Int64) (bg : Nat → Int64) (tx : Nat → Int64) (wi : Nat → Int64) (nw : Nat → Int64) (vv : Nat → Int64) (aw_ : Nat → Int32) (fl : Nat → Int32) (cn : Nat → Int32) : Int32 × Int32 × (Nat → Int64) × (Nat → Int64) × (Nat → Int64) × (Nat → Int64) × (Nat → Int32) := if (((fl (((16 : Int32) * so)).toNatClampNeg) >>> ((16 : Int32) &&& 31)) &&& (65535 : Int32)) = (so / (2 : Int32)) then if (24 : Int32) < ((fl (((16 : Int32) * so)).toNatClampNeg) &&& (255 : Int32)) then f_MO_good_81 so th le lo da si kc bg tx wi nw vv aw_ fl cn 25 ((16 : Int32) * so) (so / (2 : Int32)) (0 : Int32) ((fl (((16 : Int32) * so)).toNatClampNeg) &&& (255 : Int32)) si tx wi nw vv aw_ else if (fl ((((16 : Int32) * so) + (7 : Int32))).toNatClampNeg) = 0 then if (f_MO_versionOf so th le lo da si fl) < (cn ((so / (2 : Int32))).toNatClampNeg) then f_MO_good_81 so th le lo da si kc bg tx wi nw vv aw_ fl cn 25 ((16 : Int32) * so) (so / (2 : Int32)) (0 : Int32) ((fl (((16 : Int32) * so)).toNatClampNeg) &&& (255 : Int32)) si tx wi nw vv aw_ else f_MO_good_81 so th le lo da si kc bg tx wi nw vv aw_ fl cn 25 ((16 : Int32) * so) (so / (2 : Int32)) (1 : Int32) ((fl (((16 : Int32) * so)).toNatClampNeg) &&& (255 : Int32)) si tx wi nw vv aw_ else f_MO_good_81 so th le lo da si kc bg tx wi nw vv aw_ fl cn 25 ((16 : Int32) * so) (so / (2 : Int32)) (0 : Int32) ((fl (((16 : Int32) * so)).toNatClampNeg) &&& (255 : Int32)) si tx wi nw vv aw_ else f_MO_good_81 so th le lo da si kc bg tx wi nw vv aw_ fl cn 25 ((16 : Int32) * so) (so / (2 : Int32)) (0 : Int32) ((fl (((16 : Int32) * so)).toNatClampNeg) &&& (255 : Int32)) si tx wi nw vv aw_
set_option maxHeartbeats 4000000 in
set_option maxRecDepth 100000 in
theorem c_MO_good (l : Launch) (dC : Nat → ClassId) (dI : Nat → Nat → Nat) (cI cJ : ClassId) (h af ak ar ag ad ac ab ax aw an av aa : Nat) (sz : Nat) (so : Int32) (th : Int32) (le : Int32) (lo : Int32) (da : Int32) (si : Int32) (kc : Nat → Int64) (bg : Nat → Int64) (tx : Nat → Int64) (wi : Nat → Int64) (nw : Nat → Int64) (vv : Nat → Int64) (aw_ : Nat → Int32) (fl : Nat → Int32) (cn : Nat → Int32) (hsi : si = 0) (hso : 0 ≤ so ∧ so < 4) : Met l y_MO_good ws_MO_good ({ frames := 4, cells := 0, slots := 0, locals := 107 } : Room) (va_Pc [.ref h, .int so] (bc_pre (dC, dI) cI cJ [(h, .inr (5, [.int th, .ref af, .ref ak, .ref ar, .ref ag, .int le, .int lo, .int da, .ref ad, .ref ac, .ref ab, .int si, .ref ax, .ref aw, .ref an, .ref av, .ref aa])), (ac, .inl (cJ, 64, .inr (.inl kc))), (ab, .inl (cJ, 8, .inr (.inl bg))), (ax, .inl (cJ, 48, .inr (.inl tx))), (aw, .inl (cJ, 64, .inr (.inl wi))), (an, .inl (cJ, 8, .inr (.inl nw))), (av, .inl (cJ, 8, .inr (.inl vv))), (aa, .inl (cI, 8, .inl aw_)), (af, .inl (cI, 70, .inl fl)), (ak, .inl (cI, 2, .inl cn))] sz)) (va_Qi (fun (r : Int32) (_ : Unit) => r = (f_MO_good so th le lo da si kc bg tx wi nw vv aw_ fl cn).1) (fun _ => bc_post (dC, dI) cI cJ (va_A [(h, .inr (5, [.int th, .ref af, .ref ak, .ref ar, .ref ag, .int le, .int lo, .int da, .ref ad, .ref ac, .ref ab, .int si, .ref ax, .ref aw, .ref an, .ref av, .ref aa])), (ac, .inl (cJ, 64, .inr (.inl kc))), (ab, .inl (cJ, 8, .inr (.inl bg))), (ax, .inl (cJ, 48, .inr (.inl tx))), (aw, .inl (cJ, 64, .inr (.inl wi))), (an, .inl (cJ, 8, .inr (.inl nw))), (av, .inl (cJ, 8, .inr (.inl vv))), (aa, .inl (cI, 8, .inl aw_)), (af, .inl (cI, 70, .inl fl)), (ak, .inl (cI, 2, .inl cn))] sz) [(h, .inr (5, [.int th, .ref af, .ref ak, .ref ar, .ref ag, .int le, .int lo, .int da, .ref ad, .ref ac, .ref ab, .int (f_MO_good so th le lo da si kc bg tx wi nw vv aw_ fl cn).2.1, .ref ax, .ref aw, .ref an, .ref av, .ref aa])), (ac, .inl (cJ, 64, .inr (.inl kc))), (ab, .inl (cJ, 8, .inr (.inl bg))), (ax, .inl (cJ, 48, .inr (.inl (f_MO_good so th le lo da si kc bg tx wi nw vv aw_ fl cn).2.2.1))), (aw, .inl (cJ, 64, .inr (.inl (f_MO_good so th le lo da si kc bg tx wi nw vv aw_ fl cn).2.2.2.1))), (an, .inl (cJ, 8, .inr (.inl (f_MO_good so th le lo da si kc bg tx wi nw vv aw_ fl cn).2.2.2.2.1))), (av, .inl (cJ, 8, .inr (.inl (f_MO_good so th le lo da si kc bg tx wi nw vv aw_ fl cn).2.2.2.2.2.1))), (aa, .inl (cI, 8, .inl (f_MO_good so th le lo da si kc bg tx wi nw vv aw_ fl cn).2.2.2.2.2.2)), (af, .inl (cI, 70, .inl fl)), (ak, .inl (cI, 2, .inl cn))]) (va_A [(h, .inr (5, [.int th, .ref af, .ref ak, .ref ar, .ref ag, .int le, .int lo, .int da, .ref ad, .ref ac, .ref ab, .int si, .ref ax, .ref aw, .ref an, .ref av, .ref aa])), (ac, .inl (cJ, 64, .inr (.inl kc))), (ab, .inl (cJ, 8, .inr (.inl bg))), (ax, .inl (cJ, 48, .inr (.inl tx))), (aw, .inl (cJ, 64, .inr (.inl wi))), (an, .inl (cJ, 8, .inr (.inl nw))), (av, .inl (cJ, 8, .inr (.inl vv))), (aa, .inl (cI, 8, .inl aw_)), (af, .inl (cI, 70, .inl fl)), (ak, .inl (cI, 2, .inl cn))] sz)) 0 0 (va_A [(h, .inr (5, [.int th, .ref af, .ref ak, .ref ar, .ref ag, .int le, .int lo, .int da, .ref ad, .ref ac, .ref ab, .int si, .ref ax, .ref aw, .ref an, .ref av, .ref aa])), (ac, .inl (cJ, 64, .inr (.inl kc))), (ab, .inl (cJ, 8, .inr (.inl bg))), (ax, .inl (cJ, 48, .inr (.inl tx))), (aw, .inl (cJ, 64, .inr (.inl wi))), (an, .inl (cJ, 8, .inr (.inl nw))), (av, .inl (cJ, 8, .inr (.inl vv))), (aa, .inl (cI, 8, .inl aw_)), (af, .inl (cI, 70, .inl fl)), (ak, .inl (cI, 2, .inl cn))] sz) := by
  refine Met.ofW (cc := prog_8_method_20_code) (maxL := 7) (ret := (some .boolean)) (by decide) rfl ?_
  intro p e s m args below meth c s₁ B hml hv
  obtain ⟨rfl, hsz, hP, hK, hD0, hE⟩ := hv
  have hx := B.exec
  have hb := B.bytes
  have hr := B.returns
  have hts : ∀ w ∈ bc_G, w.before ([.ref h, .int so] : List Value).toArray s = true := fun w h => atoms_spec (ws := ws_MO_good) B.pre w (List.mem_cons_of_mem _ h)
  have hown : s.vm.findClass "BootChainModel" = some m.cls := findClass_of_methodNamed B.named
  have hlocks := B.notSynchronized
  subst hsz
  have hD := hD0.self (sz := s.heap.size)
  generalize hAe : va_A [(h, .inr (5, [.int th, .ref af, .ref ak, .ref ar, .ref ag, .int le, .int lo, .int da, .ref ad, .ref ac, .ref ab, .int si, .ref ax, .ref aw, .ref an, .ref av, .ref aa])), (ac, .inl (cJ, 64, .inr (.inl kc))), (ab, .inl (cJ, 8, .inr (.inl bg))), (ax, .inl (cJ, 48, .inr (.inl tx))), (aw, .inl (cJ, 64, .inr (.inl wi))), (an, .inl (cJ, 8, .inr (.inl nw))), (av, .inl (cJ, 8, .inr (.inl vv))), (aa, .inl (cI, 8, .inl aw_)), (af, .inl (cI, 70, .inl fl)), (ak, .inl (cI, 2, .inl cn))] s.heap.size = A at hD hE ⊢
  have hA : ∀ q : Nat, s.heap.size ≤ q → A q := fun q h => by rw [← hAe]; exact Or.inr h
  have hS : va_S A s.heap s.heap [] := va_S.rf
  have lp_156 : ∀ (n : Nat) (x2 : Int32) (x5 : Int32) (x6 : Int32) (y0_11 : Int32) (y3 : Nat → Int64) (y4 : Nat → Int64) (y5 : Nat → Int64) (y6 : Nat → Int64) (y7 : Nat → Int32) (H : Heap) (locs : List Loc) (ls : Array Slot), (0 ≤ x6 ∧ x6 ≤ 8) ∧ x2 = 16 * so ∧ (x5 = 0 ∨ x5 = 1) → ((8 : Int32).toInt - x6.toInt).toNat < n → lv_has ls 7 [(0, .ref h), (2, .int x2), (5, .int x5), (6, .int x6)] → va_P (dC, dI) classes [(h, .inr (5, [.int th, .ref af, .ref ak, .ref ar, .ref ag, .int le, .int lo, .int da, .ref ad, .ref ac, .ref ab, .int y0_11, .ref ax, .ref aw, .ref an, .ref av, .ref aa])), (ac, .inl (cJ, 64, .inr (.inl kc))), (ab, .inl (cJ, 8, .inr (.inl bg))), (ax, .inl (cJ, 48, .inr (.inl y3))), (aw, .inl (cJ, 64, .inr (.inl y4))), (an, .inl (cJ, 8, .inr (.inl y5))), (av, .inl (cJ, 8, .inr (.inl y6))), (aa, .inl (cI, 8, .inl y7)), (af, .inl (cI, 70, .inl fl)), (ak, .inl (cI, 2, .inl cn))] H → va_D A [(h, .inr (5, [.int th, .ref af, .ref ak, .ref ar, .ref ag, .int le, .int lo, .int da, .ref ad, .ref ac, .ref ab, .int y0_11, .ref ax, .ref aw, .ref an, .ref av, .ref aa])), (ac, .inl (cJ, 64, .inr (.inl kc))), (ab, .inl (cJ, 8, .inr (.inl bg))), (ax, .inl (cJ, 48, .inr (.inl y3))), (aw, .inl (cJ, 64, .inr (.inl y4))), (an, .inl (cJ, 8, .inr (.inl y5))), (av, .inl (cJ, 8, .inr (.inl y6))), (aa, .inl (cI, 8, .inl y7)), (af, .inl (cI, 70, .inl fl)), (ak, .inl (cI, 2, .inl cn))] → va_S A s.heap H locs → W p l e (headSpec ws_MO_good ({ frames := 4, cells := 0, slots := 0, locals := 107 } : Room)).room s m ([.ref h, .int so] : List Value).toArray below meth c H locs 0 0 (MQ below (va_Qi (fun (r : Int32) (_ : Unit) => r = (f_MO_good_156 so th le lo da si kc bg tx wi nw vv aw_ fl cn n x2 x5 x6 y0_11 y3 y4 y5 y6 y7).1) (fun _ => bc_post (dC, dI) cI cJ A [(h, .inr (5, [.int th, .ref af, .ref ak, .ref ar, .ref ag, .int le, .int lo, .int da, .ref ad, .ref ac, .ref ab, .int (f_MO_good_156 so th le lo da si kc bg tx wi nw vv aw_ fl cn n x2 x5 x6 y0_11 y3 y4 y5 y6 y7).2.1, .ref ax, .ref aw, .ref an, .ref av, .ref aa])), (ac, .inl (cJ, 64, .inr (.inl kc))), (ab, .inl (cJ, 8, .inr (.inl bg))), (ax, .inl (cJ, 48, .inr (.inl (f_MO_good_156 so th le lo da si kc bg tx wi nw vv aw_ fl cn n x2 x5 x6 y0_11 y3 y4 y5 y6 y7).2.2.1))), (aw, .inl (cJ, 64, .inr (.inl (f_MO_good_156 so th le lo da si kc bg tx wi nw vv aw_ fl cn n x2 x5 x6 y0_11 y3 y4 y5 y6 y7).2.2.2.1))), (an, .inl (cJ, 8, .inr (.inl (f_MO_good_156 so th le lo da si kc bg tx wi nw vv aw_ fl cn n x2 x5 x6 y0_11 y3 y4 y5 y6 y7).2.2.2.2.1))), (av, .inl (cJ, 8, .inr (.inl (f_MO_good_156 so th le lo da si kc bg tx wi nw vv aw_ fl cn n x2 x5 x6 y0_11 y3 y4 y5 y6 y7).2.2.2.2.2.1))), (aa, .inl (cI, 8, .inl (f_MO_good_156 so th le lo da si kc bg tx wi nw vv aw_ fl cn n x2 x5 x6 y0_11 y3 y4 y5 y6 y7).2.2.2.2.2.2)), (af, .inl (cI, 70, .inl fl)), (ak, .inl (cI, 2, .inl cn))]) A) ([.ref h, .int so] : List Value).toArray s 0 0 A) (F0 m 156 ls []) := by
    intro n
    induction n with
    | zero => intro x2 x5 x6 y0_11 y3 y4 y5 y6 y7 H locs ls hI hm; exact absurd hm (Nat.not_lt_zero _)
    | succ n ih =>
      intro x2 x5 x6 y0_11 y3 y4 y5 y6 y7 H locs ls hI hm hl hP hD hS
      refine lv_iload hx hb d_MO_good_156 (lv_at hl 3 rfl) ?_
      refine lv_bipush (v := 8) hx hb d_MO_good_158 (by decide) ?_
      refine lv_icmp_ge (tgt := 203) hx hb d_MO_good_160 (by decide) (fun h20 => ?_) (fun h20 => ?_)
      · refine lv_iload hx hb d_MO_good_203 (lv_at hl 2 rfl) ?_
        have e0 : (f_MO_good_156 so th le lo da si kc bg tx wi nw vv aw_ fl cn (n + 1) x2 x5 x6 y0_11 y3 y4 y5 y6 y7) = (x5, y0_11, y3, y4, y5, y6, y7) := by rw [f_MO_good_156, if_pos h20]
        rw [e0]
        exact W.zret (v := x5) (ty := .boolean) hx hb hr (z_of hI.2.2) (fun t ht hW => ⟨⟨x5, (), rfl, rfl, by rw [ht]; exact hP, va_K.moved hW.alike hK, hD⟩, hS.F ht⟩) hS.2.2 d_MO_good_205
      · refine lv_iload hx hb d_MO_good_163 (lv_at hl 2 rfl) ?_
        refine lv_if_eq (tgt := 194) hx hb d_MO_good_165 (by decide) (fun h21 => ?_) (fun h21 => ?_)
        · refine lv_iconst (v := 0) hx hb d_MO_good_194 (by decide) ?_
          refine lv_istore (lv' := [(5, .int (0 : Int32)), (0, .ref h), (2, .int x2), (6, .int x6)]) hx hb d_MO_good_195 hl (by decide) rfl (fun ls hl => ?_)
          refine lv_iinc (k := 3) (v := (x6 + (1 : Int32))) (lv' := [(6, .int (x6 + (1 : Int32))), (5, .int (0 : Int32)), (0, .ref h), (2, .int x2)]) hx hb d_MO_good_197 hl rfl rfl (by decide) rfl (fun ls hl => ?_)
          refine lv_goto (tgt := 156) hx hb d_MO_good_200 (by decide) ?_
          have e0 : (f_MO_good_156 so th le lo da si kc bg tx wi nw vv aw_ fl cn (n + 1) x2 x5 x6 y0_11 y3 y4 y5 y6 y7) = f_MO_good_156 so th le lo da si kc bg tx wi nw vv aw_ fl cn n x2 (0 : Int32) (x6 + (1 : Int32)) y0_11 y3 y4 y5 y6 y7 := by rw [f_MO_good_156, if_neg h20, if_pos h21]
          rw [e0]
          exact ih x2 (0 : Int32) (x6 + (1 : Int32)) y0_11 y3 y4 y5 y6 y7 _ _ ls ⟨(lp_up hI.1.1 (by assumption)).1, hI.2.1, by simp⟩ (lp_ms hI.1.1 (by assumption) hm) (lv_sub hl [2, 3, 1, 0] rfl) hP hD hS
        · refine lv_aload_n hx hb d_MO_good_168 rfl (lv_at hl 0 rfl) ?_
          refine va_get (D := (dC, dI)) (ci := 5) (v := .ref aa) (C := R_MO) (T := F_MO) (N := 17) hx hb hts in_MO hown hK hP 0 rfl rfl 16 (by decide) (hts _ gw_534) (fun _ h9 => h9) rfl d_MO_good_169 ?_
          refine lv_iload hx hb d_MO_good_172 (lv_at hl 3 rfl) ?_
          refine va_iald hx hb hK hP 7 0 rfl rfl (by exact ix_sub 8 8 hI.1.1 (by assumption) rfl (by decide) (by decide)) d_MO_good_174 ?_
          refine lv_aload_n hx hb d_MO_good_175 rfl (lv_at hl 0 rfl) ?_
          refine va_get (D := (dC, dI)) (ci := 5) (v := .ref af) (C := R_MO) (T := F_MO) (N := 17) hx hb hts in_MO hown hK hP 0 rfl rfl 1 (by decide) (hts _ gw_519) (fun _ h9 => h9) rfl d_MO_good_176 ?_
          refine lv_iload_n hx hb d_MO_good_179 rfl (lv_at hl 1 rfl) ?_
          refine lv_bipush (v := 8) hx hb d_MO_good_180 (by decide) ?_
          refine lv_iadd hx hb d_MO_good_182 ?_
          refine lv_iload hx hb d_MO_good_183 (lv_at hl 3 rfl) ?_
          refine lv_iadd hx hb d_MO_good_185 ?_
          refine va_iald hx hb hK hP 8 0 rfl rfl (by rw [hI.2.1]; exact ix_f8 hso hI.1.1 (by assumption)) d_MO_good_186 ?_
          refine lv_icmp_ne (tgt := 194) hx hb d_MO_good_187 (by decide) (fun h22 => ?_) (fun h22 => ?_)
          · refine lv_iconst (v := 0) hx hb d_MO_good_194 (by decide) ?_
            refine lv_istore (lv' := [(5, .int (0 : Int32)), (0, .ref h), (2, .int x2), (6, .int x6)]) hx hb d_MO_good_195 hl (by decide) rfl (fun ls hl => ?_)
            refine lv_iinc (k := 3) (v := (x6 + (1 : Int32))) (lv' := [(6, .int (x6 + (1 : Int32))), (5, .int (0 : Int32)), (0, .ref h), (2, .int x2)]) hx hb d_MO_good_197 hl rfl rfl (by decide) rfl (fun ls hl => ?_)
            refine lv_goto (tgt := 156) hx hb d_MO_good_200 (by decide) ?_
            have e0 : (f_MO_good_156 so th le lo da si kc bg tx wi nw vv aw_ fl cn (n + 1) x2 x5 x6 y0_11 y3 y4 y5 y6 y7) = f_MO_good_156 so th le lo da si kc bg tx wi nw vv aw_ fl cn n x2 (0 : Int32) (x6 + (1 : Int32)) y0_11 y3 y4 y5 y6 y7 := by rw [f_MO_good_156, if_neg h20, if_neg h21, if_neg h22]
            rw [e0]
            exact ih x2 (0 : Int32) (x6 + (1 : Int32)) y0_11 y3 y4 y5 y6 y7 _ _ ls ⟨(lp_up hI.1.1 (by assumption)).1, hI.2.1, by simp⟩ (lp_ms hI.1.1 (by assumption) hm) (lv_sub hl [2, 3, 1, 0] rfl) hP hD hS
          · refine lv_iconst (v := 1) hx hb d_MO_good_190 (by decide) ?_
            refine lv_goto (tgt := 195) hx hb d_MO_good_191 (by decide) ?_
            refine lv_istore (lv' := [(5, .int (1 : Int32)), (0, .ref h), (2, .int x2), (6, .int x6)]) hx hb d_MO_good_195 hl (by decide) rfl (fun ls hl => ?_)
            refine lv_iinc (k := 3) (v := (x6 + (1 : Int32))) (lv' := [(6, .int (x6 + (1 : Int32))), (5, .int (1 : Int32)), (0, .ref h), (2, .int x2)]) hx hb d_MO_good_197 hl rfl rfl (by decide) rfl (fun ls hl => ?_)
            refine lv_goto (tgt := 156) hx hb d_MO_good_200 (by decide) ?_
            have e0 : (f_MO_good_156 so th le lo da si kc bg tx wi nw vv aw_ fl cn (n + 1) x2 x5 x6 y0_11 y3 y4 y5 y6 y7) = f_MO_good_156 so th le lo da si kc bg tx wi nw vv aw_ fl cn n x2 (1 : Int32) (x6 + (1 : Int32)) y0_11 y3 y4 y5 y6 y7 := by rw [f_MO_good_156, if_neg h20, if_neg h21, if_pos h22]
            rw [e0]
            exact ih x2 (1 : Int32) (x6 + (1 : Int32)) y0_11 y3 y4 y5 y6 y7 _ _ ls ⟨(lp_up hI.1.1 (by assumption)).1, hI.2.1, by simp⟩ (lp_ms hI.1.1 (by assumption) hm) (lv_sub hl [2, 3, 1, 0] rfl) hP hD hS
  have lp_81 : ∀ (n : Nat) (x2 : Int32) (x3 : Int32) (x5 : Int32) (x6 : Int32) (y0_11 : Int32) (y3 : Nat → Int64) (y4 : Nat → Int64) (y5 : Nat → Int64) (y6 : Nat → Int64) (y7 : Nat → Int32) (H : Heap) (locs : List Loc) (ls : Array Slot), x2 = 16 * so ∧ x3 = so / 2 ∧ 0 ≤ x6 ∧ (x5 = 0 ∨ x5 = 1) ∧ y0_11 = 0 → ((24 : Int32).toInt - x6.toInt).toNat < n → lv_has ls 7 [(0, .ref h), (2, .int x2), (3, .int x3), (5, .int x5), (6, .int x6)] → va_P (dC, dI) classes [(h, .inr (5, [.int th, .ref af, .ref ak, .ref ar, .ref ag, .int le, .int lo, .int da, .ref ad, .ref ac, .ref ab, .int y0_11, .ref ax, .ref aw, .ref an, .ref av, .ref aa])), (ac, .inl (cJ, 64, .inr (.inl kc))), (ab, .inl (cJ, 8, .inr (.inl bg))), (ax, .inl (cJ, 48, .inr (.inl y3))), (aw, .inl (cJ, 64, .inr (.inl y4))), (an, .inl (cJ, 8, .inr (.inl y5))), (av, .inl (cJ, 8, .inr (.inl y6))), (aa, .inl (cI, 8, .inl y7)), (af, .inl (cI, 70, .inl fl)), (ak, .inl (cI, 2, .inl cn))] H → va_D A [(h, .inr (5, [.int th, .ref af, .ref ak, .ref ar, .ref ag, .int le, .int lo, .int da, .ref ad, .ref ac, .ref ab, .int y0_11, .ref ax, .ref aw, .ref an, .ref av, .ref aa])), (ac, .inl (cJ, 64, .inr (.inl kc))), (ab, .inl (cJ, 8, .inr (.inl bg))), (ax, .inl (cJ, 48, .inr (.inl y3))), (aw, .inl (cJ, 64, .inr (.inl y4))), (an, .inl (cJ, 8, .inr (.inl y5))), (av, .inl (cJ, 8, .inr (.inl y6))), (aa, .inl (cI, 8, .inl y7)), (af, .inl (cI, 70, .inl fl)), (ak, .inl (cI, 2, .inl cn))] → va_S A s.heap H locs → W p l e (headSpec ws_MO_good ({ frames := 4, cells := 0, slots := 0, locals := 107 } : Room)).room s m ([.ref h, .int so] : List Value).toArray below meth c H locs 0 0 (MQ below (va_Qi (fun (r : Int32) (_ : Unit) => r = (f_MO_good_81 so th le lo da si kc bg tx wi nw vv aw_ fl cn n x2 x3 x5 x6 y0_11 y3 y4 y5 y6 y7).1) (fun _ => bc_post (dC, dI) cI cJ A [(h, .inr (5, [.int th, .ref af, .ref ak, .ref ar, .ref ag, .int le, .int lo, .int da, .ref ad, .ref ac, .ref ab, .int (f_MO_good_81 so th le lo da si kc bg tx wi nw vv aw_ fl cn n x2 x3 x5 x6 y0_11 y3 y4 y5 y6 y7).2.1, .ref ax, .ref aw, .ref an, .ref av, .ref aa])), (ac, .inl (cJ, 64, .inr (.inl kc))), (ab, .inl (cJ, 8, .inr (.inl bg))), (ax, .inl (cJ, 48, .inr (.inl (f_MO_good_81 so th le lo da si kc bg tx wi nw vv aw_ fl cn n x2 x3 x5 x6 y0_11 y3 y4 y5 y6 y7).2.2.1))), (aw, .inl (cJ, 64, .inr (.inl (f_MO_good_81 so th le lo da si kc bg tx wi nw vv aw_ fl cn n x2 x3 x5 x6 y0_11 y3 y4 y5 y6 y7).2.2.2.1))), (an, .inl (cJ, 8, .inr (.inl (f_MO_good_81 so th le lo da si kc bg tx wi nw vv aw_ fl cn n x2 x3 x5 x6 y0_11 y3 y4 y5 y6 y7).2.2.2.2.1))), (av, .inl (cJ, 8, .inr (.inl (f_MO_good_81 so th le lo da si kc bg tx wi nw vv aw_ fl cn n x2 x3 x5 x6 y0_11 y3 y4 y5 y6 y7).2.2.2.2.2.1))), (aa, .inl (cI, 8, .inl (f_MO_good_81 so th le lo da si kc bg tx wi nw vv aw_ fl cn n x2 x3 x5 x6 y0_11 y3 y4 y5 y6 y7).2.2.2.2.2.2)), (af, .inl (cI, 70, .inl fl)), (ak, .inl (cI, 2, .inl cn))]) A) ([.ref h, .int so] : List Value).toArray s 0 0 A) (F0 m 81 ls []) := by
    intro n
    induction n with
    | zero => intro x2 x3 x5 x6 y0_11 y3 y4 y5 y6 y7 H locs ls hI hm; exact absurd hm (Nat.not_lt_zero _)
    | succ n ih =>
      intro x2 x3 x5 x6 y0_11 y3 y4 y5 y6 y7 H locs ls hI hm hl hP hD hS
      have jn_136 : ∀ (x2 : Int32) (x3 : Int32) (x5 : Int32) (y0_11 : Int32) (y3 : Nat → Int64) (y4 : Nat → Int64) (y5 : Nat → Int64) (y6 : Nat → Int64) (y7 : Nat → Int32) (H : Heap) (locs : List Loc) (ls : Array Slot), (x2 = 16 * so ∧ x3 = so / 2 ∧ (x5 = 0 ∨ x5 = 1) ∧ y0_11 = 0) → lv_has ls 7 [(0, .ref h), (2, .int x2), (3, .int x3), (5, .int x5)] → va_P (dC, dI) classes [(h, .inr (5, [.int th, .ref af, .ref ak, .ref ar, .ref ag, .int le, .int lo, .int da, .ref ad, .ref ac, .ref ab, .int y0_11, .ref ax, .ref aw, .ref an, .ref av, .ref aa])), (ac, .inl (cJ, 64, .inr (.inl kc))), (ab, .inl (cJ, 8, .inr (.inl bg))), (ax, .inl (cJ, 48, .inr (.inl y3))), (aw, .inl (cJ, 64, .inr (.inl y4))), (an, .inl (cJ, 8, .inr (.inl y5))), (av, .inl (cJ, 8, .inr (.inl y6))), (aa, .inl (cI, 8, .inl y7)), (af, .inl (cI, 70, .inl fl)), (ak, .inl (cI, 2, .inl cn))] H → va_D A [(h, .inr (5, [.int th, .ref af, .ref ak, .ref ar, .ref ag, .int le, .int lo, .int da, .ref ad, .ref ac, .ref ab, .int y0_11, .ref ax, .ref aw, .ref an, .ref av, .ref aa])), (ac, .inl (cJ, 64, .inr (.inl kc))), (ab, .inl (cJ, 8, .inr (.inl bg))), (ax, .inl (cJ, 48, .inr (.inl y3))), (aw, .inl (cJ, 64, .inr (.inl y4))), (an, .inl (cJ, 8, .inr (.inl y5))), (av, .inl (cJ, 8, .inr (.inl y6))), (aa, .inl (cI, 8, .inl y7)), (af, .inl (cI, 70, .inl fl)), (ak, .inl (cI, 2, .inl cn))] → va_S A s.heap H locs → W p l e (headSpec ws_MO_good ({ frames := 4, cells := 0, slots := 0, locals := 107 } : Room)).room s m ([.ref h, .int so] : List Value).toArray below meth c H locs 0 0 (MQ below (va_Qi (fun (r : Int32) (_ : Unit) => r = (f_MO_good_j136 (f_MO_good_81 so th le lo da si kc bg tx wi nw vv aw_ fl cn n) so th le lo da si kc bg tx wi nw vv aw_ fl cn x2 x3 x5 y0_11 y3 y4 y5 y6 y7).1) (fun _ => bc_post (dC, dI) cI cJ A [(h, .inr (5, [.int th, .ref af, .ref ak, .ref ar, .ref ag, .int le, .int lo, .int da, .ref ad, .ref ac, .ref ab, .int (f_MO_good_j136 (f_MO_good_81 so th le lo da si kc bg tx wi nw vv aw_ fl cn n) so th le lo da si kc bg tx wi nw vv aw_ fl cn x2 x3 x5 y0_11 y3 y4 y5 y6 y7).2.1, .ref ax, .ref aw, .ref an, .ref av, .ref aa])), (ac, .inl (cJ, 64, .inr (.inl kc))), (ab, .inl (cJ, 8, .inr (.inl bg))), (ax, .inl (cJ, 48, .inr (.inl (f_MO_good_j136 (f_MO_good_81 so th le lo da si kc bg tx wi nw vv aw_ fl cn n) so th le lo da si kc bg tx wi nw vv aw_ fl cn x2 x3 x5 y0_11 y3 y4 y5 y6 y7).2.2.1))), (aw, .inl (cJ, 64, .inr (.inl (f_MO_good_j136 (f_MO_good_81 so th le lo da si kc bg tx wi nw vv aw_ fl cn n) so th le lo da si kc bg tx wi nw vv aw_ fl cn x2 x3 x5 y0_11 y3 y4 y5 y6 y7).2.2.2.1))), (an, .inl (cJ, 8, .inr (.inl (f_MO_good_j136 (f_MO_good_81 so th le lo da si kc bg tx wi nw vv aw_ fl cn n) so th le lo da si kc bg tx wi nw vv aw_ fl cn x2 x3 x5 y0_11 y3 y4 y5 y6 y7).2.2.2.2.1))), (av, .inl (cJ, 8, .inr (.inl (f_MO_good_j136 (f_MO_good_81 so th le lo da si kc bg tx wi nw vv aw_ fl cn n) so th le lo da si kc bg tx wi nw vv aw_ fl cn x2 x3 x5 y0_11 y3 y4 y5 y6 y7).2.2.2.2.2.1))), (aa, .inl (cI, 8, .inl (f_MO_good_j136 (f_MO_good_81 so th le lo da si kc bg tx wi nw vv aw_ fl cn n) so th le lo da si kc bg tx wi nw vv aw_ fl cn x2 x3 x5 y0_11 y3 y4 y5 y6 y7).2.2.2.2.2.2)), (af, .inl (cI, 70, .inl fl)), (ak, .inl (cI, 2, .inl cn))]) A) ([.ref h, .int so] : List Value).toArray s 0 0 A) (F0 m 136 ls []) := by
        intro x2 x3 x5 y0_11 y3 y4 y5 y6 y7 H locs ls hJ hl hP hD hS
        refine lv_iload hx hb d_MO_good_136 (lv_at hl 3 rfl) ?_
        refine lv_if_ne (tgt := 143) hx hb d_MO_good_138 (by decide) (fun h19 => ?_) (fun h19 => ?_)
        · refine lv_aload_n hx hb d_MO_good_143 rfl (lv_at hl 0 rfl) ?_
          refine lv_aload_n hx hb d_MO_good_144 rfl (lv_at hl 0 rfl) ?_
          refine va_get (D := (dC, dI)) (ci := 5) (v := .ref af) (C := R_MO) (T := F_MO) (N := 17) hx hb hts in_MO hown hK hP 0 rfl rfl 1 (by decide) (hts _ gw_519) (fun _ h9 => h9) rfl d_MO_good_145 ?_
          refine lv_iload_n hx hb d_MO_good_148 rfl (lv_at hl 1 rfl) ?_
          refine lv_iload_n hx hb d_MO_good_149 rfl (lv_at hl 2 rfl) ?_
          have hPc := hP.sub (ws' := [(h, .inr (5, [.int th, .ref af, .ref ak, .ref ar, .ref ag, .int le, .int lo, .int da, .ref ad, .ref ac, .ref ab, .int y0_11, .ref ax, .ref aw, .ref an, .ref av, .ref aa])), (ac, .inl (cJ, 64, .inr (.inl kc))), (ab, .inl (cJ, 8, .inr (.inl bg))), (ax, .inl (cJ, 48, .inr (.inl y3))), (aw, .inl (cJ, 64, .inr (.inl y4))), (an, .inl (cJ, 8, .inr (.inl y5))), (av, .inl (cJ, 8, .inr (.inl y6))), (aa, .inl (cI, 8, .inl y7)), (af, .inl (cI, 70, .inl fl))]) [0, 1, 2, 3, 4, 5, 6, 7, 8] rfl
          have hDc := hD.sub (ws' := [(h, .inr (5, [.int th, .ref af, .ref ak, .ref ar, .ref ag, .int le, .int lo, .int da, .ref ad, .ref ac, .ref ab, .int y0_11, .ref ax, .ref aw, .ref an, .ref av, .ref aa])), (ac, .inl (cJ, 64, .inr (.inl kc))), (ab, .inl (cJ, 8, .inr (.inl bg))), (ax, .inl (cJ, 48, .inr (.inl y3))), (aw, .inl (cJ, 64, .inr (.inl y4))), (an, .inl (cJ, 8, .inr (.inl y5))), (av, .inl (cJ, 8, .inr (.inl y6))), (aa, .inl (cI, 8, .inl y7)), (af, .inl (cI, 70, .inl fl))]) [0, 1, 2, 3, 4, 5, 6, 7, 8] (by decide) rfl
          have hFc := va_free (wc := [(h, .inr (5, [.int th, .ref af, .ref ak, .ref ar, .ref ag, .int le, .int lo, .int da, .ref ad, .ref ac, .ref ab, .int y0_11, .ref ax, .ref aw, .ref an, .ref av, .ref aa])), (ac, .inl (cJ, 64, .inr (.inl kc))), (ab, .inl (cJ, 8, .inr (.inl bg))), (ax, .inl (cJ, 48, .inr (.inl y3))), (aw, .inl (cJ, 64, .inr (.inl y4))), (an, .inl (cJ, 8, .inr (.inl y5))), (av, .inl (cJ, 8, .inr (.inl y6))), (aa, .inl (cI, 8, .inl y7)), (af, .inl (cI, 70, .inl fl))]) hD hS hA [0, 1, 2, 3, 4, 5, 6, 7, 8] rfl
          refine va_callv (va_runV (As := [.ref af, .int x2, .int x3]) (rest := []) ⟨hx, hb, hml, hown, hts⟩ (c_MO_seal l dC dI cI cJ h af af ak ar ag ad ac ab ax aw an av aa _ 70 x2 x3 th le lo da y0_11 kc bg y3 y4 y5 y6 y7 fl hJ.2.2.2 (by rw [hJ.1]; exact ro_fl hso)) ⟨callB_of 3 hts (bc_good gw_639) rfl rfl rfl (hts _ gw_6) (hts _ gw_637) (by decide +kernel) ⟨Nat.le_of_ble_eq_true rfl, Nat.le_of_ble_eq_true rfl⟩, (hts _ gw_638), (hts _ gw_721)⟩ ⟨bc_blind, va_recv (q0 := 0) hK hP (q := (R_MO, F_MO, 17)) rfl rfl, fun U hU hW => ⟨rfl, bc_give hPc hDc hK hE hS hFc U hU hW⟩⟩ rfl rfl hl.1 rfl (lv_room (Nat.le_of_ble_eq_true rfl)) d_MO_good_150 ⟨Nat.le_of_ble_eq_true rfl, Nat.le_of_ble_eq_true rfl⟩) hS (fun q _ h => hFc q h) hFc (fun u t H9 locs ht hvm hp hB hz1 hk1 hS => ?_)
          obtain ⟨hP, hD⟩ := va_join (wr := [(ak, .inl (cI, 2, .inl cn))]) (w1 := [(h, .inr (5, [.int th, .ref af, .ref ak, .ref ar, .ref ag, .int le, .int lo, .int da, .ref ad, .ref ac, .ref ab, .int ((f_MO_seal 70 x2 x3 th le lo da y0_11 kc bg y3 y4 y5 y6 y7 fl).1), .ref ax, .ref aw, .ref an, .ref av, .ref aa])), (ac, .inl (cJ, 64, .inr (.inl kc))), (ab, .inl (cJ, 8, .inr (.inl bg))), (ax, .inl (cJ, 48, .inr (.inl ((f_MO_seal 70 x2 x3 th le lo da y0_11 kc bg y3 y4 y5 y6 y7 fl).2.1)))), (aw, .inl (cJ, 64, .inr (.inl ((f_MO_seal 70 x2 x3 th le lo da y0_11 kc bg y3 y4 y5 y6 y7 fl).2.2.1)))), (an, .inl (cJ, 8, .inr (.inl ((f_MO_seal 70 x2 x3 th le lo da y0_11 kc bg y3 y4 y5 y6 y7 fl).2.2.2.1)))), (av, .inl (cJ, 8, .inr (.inl ((f_MO_seal 70 x2 x3 th le lo da y0_11 kc bg y3 y4 y5 y6 y7 fl).2.2.2.2.1)))), (aa, .inl (cI, 8, .inl ((f_MO_seal 70 x2 x3 th le lo da y0_11 kc bg y3 y4 y5 y6 y7 fl).2.2.2.2.2))), (af, .inl (cI, 70, .inl fl))]) hP hD [0, 1, 2, 3, 4, 5, 6, 7, 8] [9] rfl rfl (by decide) (by decide) hk1 hFc (ht ▸ hB.1) hB.2.2
          have hP := hP.sub (ws' := [(h, .inr (5, [.int th, .ref af, .ref ak, .ref ar, .ref ag, .int le, .int lo, .int da, .ref ad, .ref ac, .ref ab, .int ((f_MO_seal 70 x2 x3 th le lo da y0_11 kc bg y3 y4 y5 y6 y7 fl).1), .ref ax, .ref aw, .ref an, .ref av, .ref aa])), (ac, .inl (cJ, 64, .inr (.inl kc))), (ab, .inl (cJ, 8, .inr (.inl bg))), (ax, .inl (cJ, 48, .inr (.inl ((f_MO_seal 70 x2 x3 th le lo da y0_11 kc bg y3 y4 y5 y6 y7 fl).2.1)))), (aw, .inl (cJ, 64, .inr (.inl ((f_MO_seal 70 x2 x3 th le lo da y0_11 kc bg y3 y4 y5 y6 y7 fl).2.2.1)))), (an, .inl (cJ, 8, .inr (.inl ((f_MO_seal 70 x2 x3 th le lo da y0_11 kc bg y3 y4 y5 y6 y7 fl).2.2.2.1)))), (av, .inl (cJ, 8, .inr (.inl ((f_MO_seal 70 x2 x3 th le lo da y0_11 kc bg y3 y4 y5 y6 y7 fl).2.2.2.2.1)))), (aa, .inl (cI, 8, .inl ((f_MO_seal 70 x2 x3 th le lo da y0_11 kc bg y3 y4 y5 y6 y7 fl).2.2.2.2.2))), (af, .inl (cI, 70, .inl fl)), (ak, .inl (cI, 2, .inl cn))]) [1, 2, 3, 4, 5, 6, 7, 8, 9, 0] rfl
          have hD := hD.sub (ws' := [(h, .inr (5, [.int th, .ref af, .ref ak, .ref ar, .ref ag, .int le, .int lo, .int da, .ref ad, .ref ac, .ref ab, .int ((f_MO_seal 70 x2 x3 th le lo da y0_11 kc bg y3 y4 y5 y6 y7 fl).1), .ref ax, .ref aw, .ref an, .ref av, .ref aa])), (ac, .inl (cJ, 64, .inr (.inl kc))), (ab, .inl (cJ, 8, .inr (.inl bg))), (ax, .inl (cJ, 48, .inr (.inl ((f_MO_seal 70 x2 x3 th le lo da y0_11 kc bg y3 y4 y5 y6 y7 fl).2.1)))), (aw, .inl (cJ, 64, .inr (.inl ((f_MO_seal 70 x2 x3 th le lo da y0_11 kc bg y3 y4 y5 y6 y7 fl).2.2.1)))), (an, .inl (cJ, 8, .inr (.inl ((f_MO_seal 70 x2 x3 th le lo da y0_11 kc bg y3 y4 y5 y6 y7 fl).2.2.2.1)))), (av, .inl (cJ, 8, .inr (.inl ((f_MO_seal 70 x2 x3 th le lo da y0_11 kc bg y3 y4 y5 y6 y7 fl).2.2.2.2.1)))), (aa, .inl (cI, 8, .inl ((f_MO_seal 70 x2 x3 th le lo da y0_11 kc bg y3 y4 y5 y6 y7 fl).2.2.2.2.2))), (af, .inl (cI, 70, .inl fl)), (ak, .inl (cI, 2, .inl cn))]) [1, 2, 3, 4, 5, 6, 7, 8, 9, 0] (by decide) rfl
          generalize H9 = H at hP hS ⊢
          have e0 : (f_MO_good_j136 (f_MO_good_81 so th le lo da si kc bg tx wi nw vv aw_ fl cn n) so th le lo da si kc bg tx wi nw vv aw_ fl cn x2 x3 x5 y0_11 y3 y4 y5 y6 y7) = f_MO_good_c1 (f_MO_good_81 so th le lo da si kc bg tx wi nw vv aw_ fl cn n) so th le lo da si kc bg tx wi nw vv aw_ fl cn x2 x3 x5 y0_11 y3 y4 y5 y6 y7 (f_MO_seal 70 x2 x3 th le lo da y0_11 kc bg y3 y4 y5 y6 y7 fl) := by rw [f_MO_good_j136, if_neg h19]
          rw [e0]
          generalize hu1 : (f_MO_seal 70 x2 x3 th le lo da y0_11 kc bg y3 y4 y5 y6 y7 fl) = u1 at hP hD ⊢
          have hP : va_P (dC, dI) classes [(h, .inr (5, [.int th, .ref af, .ref ak, .ref ar, .ref ag, .int le, .int lo, .int da, .ref ad, .ref ac, .ref ab, .int (u1.1), .ref ax, .ref aw, .ref an, .ref av, .ref aa])), (ac, .inl (cJ, 64, .inr (.inl kc))), (ab, .inl (cJ, 8, .inr (.inl bg))), (ax, .inl (cJ, 48, .inr (.inl (u1.2.1)))), (aw, .inl (cJ, 64, .inr (.inl (u1.2.2.1)))), (an, .inl (cJ, 8, .inr (.inl (u1.2.2.2.1)))), (av, .inl (cJ, 8, .inr (.inl (u1.2.2.2.2.1)))), (aa, .inl (cI, 8, .inl (u1.2.2.2.2.2))), (af, .inl (cI, 70, .inl fl)), (ak, .inl (cI, 2, .inl cn))] H := hP
          have hD : va_D A [(h, .inr (5, [.int th, .ref af, .ref ak, .ref ar, .ref ag, .int le, .int lo, .int da, .ref ad, .ref ac, .ref ab, .int (u1.1), .ref ax, .ref aw, .ref an, .ref av, .ref aa])), (ac, .inl (cJ, 64, .inr (.inl kc))), (ab, .inl (cJ, 8, .inr (.inl bg))), (ax, .inl (cJ, 48, .inr (.inl (u1.2.1)))), (aw, .inl (cJ, 64, .inr (.inl (u1.2.2.1)))), (an, .inl (cJ, 8, .inr (.inl (u1.2.2.2.1)))), (av, .inl (cJ, 8, .inr (.inl (u1.2.2.2.2.1)))), (aa, .inl (cI, 8, .inl (u1.2.2.2.2.2))), (af, .inl (cI, 70, .inl fl)), (ak, .inl (cI, 2, .inl cn))] := hD
          refine lv_iconst (v := 0) hx hb d_MO_good_153 (by decide) ?_
          refine lv_istore (lv' := [(6, .int (0 : Int32)), (0, .ref h), (2, .int x2), (3, .int x3), (5, .int x5)]) hx hb d_MO_good_154 hl (by decide) rfl (fun ls hl => ?_)
          have e0 : (f_MO_good_c1 (f_MO_good_81 so th le lo da si kc bg tx wi nw vv aw_ fl cn n) so th le lo da si kc bg tx wi nw vv aw_ fl cn x2 x3 x5 y0_11 y3 y4 y5 y6 y7 u1) = f_MO_good_156 so th le lo da si kc bg tx wi nw vv aw_ fl cn 9 x2 x5 (0 : Int32) (u1.1) (u1.2.1) (u1.2.2.1) (u1.2.2.2.1) (u1.2.2.2.2.1) (u1.2.2.2.2.2) := by rw [f_MO_good_c1]
          rw [e0]
          exact lp_156 9 x2 x5 (0 : Int32) (u1.1) (u1.2.1) (u1.2.2.1) (u1.2.2.2.1) (u1.2.2.2.2.1) (u1.2.2.2.2.2) _ _ ls ⟨⟨by decide, by decide⟩, hJ.1, hJ.2.2.1⟩ (by decide) (lv_sub hl [1, 2, 4, 0] rfl) hP hD hS
        · refine lv_iconst (v := 0) hx hb d_MO_good_141 (by decide) ?_
          have e0 : (f_MO_good_j136 (f_MO_good_81 so th le lo da si kc bg tx wi nw vv aw_ fl cn n) so th le lo da si kc bg tx wi nw vv aw_ fl cn x2 x3 x5 y0_11 y3 y4 y5 y6 y7) = ((0 : Int32), y0_11, y3, y4, y5, y6, y7) := by rw [f_MO_good_j136, if_pos h19]
          rw [e0]
          exact W.zret (v := (0 : Int32)) (ty := .boolean) hx hb hr (rfl) (fun t ht hW => ⟨⟨(0 : Int32), (), rfl, rfl, by rw [ht]; exact hP, va_K.moved hW.alike hK, hD⟩, hS.F ht⟩) hS.2.2 d_MO_good_142
      refine lv_iload hx hb d_MO_good_81 (lv_at hl 4 rfl) ?_
      refine lv_bipush (v := 24) hx hb d_MO_good_83 (by decide) ?_
      refine lv_icmp_ge (tgt := 136) hx hb d_MO_good_85 (by decide) (fun h16 => ?_) (fun h16 => ?_)
      · have e0 : (f_MO_good_81 so th le lo da si kc bg tx wi nw vv aw_ fl cn (n + 1) x2 x3 x5 x6 y0_11 y3 y4 y5 y6 y7) = f_MO_good_j136 (f_MO_good_81 so th le lo da si kc bg tx wi nw vv aw_ fl cn n) so th le lo da si kc bg tx wi nw vv aw_ fl cn x2 x3 x5 y0_11 y3 y4 y5 y6 y7 := by rw [f_MO_good_81, if_pos h16]
        rw [e0]
        exact jn_136 x2 x3 x5 y0_11 y3 y4 y5 y6 y7 _ _ ls ⟨hI.1, hI.2.1, hI.2.2.2.1, hI.2.2.2.2⟩ (lv_sub hl [0, 1, 2, 3] rfl) hP hD hS
      · refine lv_iload hx hb d_MO_good_88 (lv_at hl 3 rfl) ?_
        refine lv_if_eq (tgt := 136) hx hb d_MO_good_90 (by decide) (fun h17 => ?_) (fun h17 => ?_)
        · have e0 : (f_MO_good_81 so th le lo da si kc bg tx wi nw vv aw_ fl cn (n + 1) x2 x3 x5 x6 y0_11 y3 y4 y5 y6 y7) = f_MO_good_j136 (f_MO_good_81 so th le lo da si kc bg tx wi nw vv aw_ fl cn n) so th le lo da si kc bg tx wi nw vv aw_ fl cn x2 x3 x5 y0_11 y3 y4 y5 y6 y7 := by rw [f_MO_good_81, if_neg h16, if_pos h17]
          rw [e0]
          exact jn_136 x2 x3 x5 y0_11 y3 y4 y5 y6 y7 _ _ ls ⟨hI.1, hI.2.1, hI.2.2.2.1, hI.2.2.2.2⟩ (lv_sub hl [0, 1, 2, 3] rfl) hP hD hS
        · refine lv_aload_n hx hb d_MO_good_93 rfl (lv_at hl 0 rfl) ?_
          refine va_get (D := (dC, dI)) (ci := 5) (v := .ref af) (C := R_MO) (T := F_MO) (N := 17) hx hb hts in_MO hown hK hP 0 rfl rfl 1 (by decide) (hts _ gw_519) (fun _ h9 => h9) rfl d_MO_good_94 ?_
          refine lv_iload_n hx hb d_MO_good_97 rfl (lv_at hl 1 rfl) ?_
          refine lv_iconst (v := 1) hx hb d_MO_good_98 (by decide) ?_
          refine lv_iadd hx hb d_MO_good_99 ?_
          refine lv_iload hx hb d_MO_good_100 (lv_at hl 4 rfl) ?_
          refine lv_iconst (v := 4) hx hb d_MO_good_102 (by decide) ?_
          refine lv_idiv hx hb d_MO_good_103 (by decide) ?_
          refine lv_iadd hx hb d_MO_good_104 ?_
          refine va_iald hx hb hK hP 8 0 rfl rfl (by rw [hI.1]; exact ix_fk hso hI.2.2.1 (by assumption)) d_MO_good_105 ?_
          refine lv_bipush (v := 8) hx hb d_MO_good_106 (by decide) ?_
          refine lv_iconst (v := 3) hx hb d_MO_good_108 (by decide) ?_
          refine lv_iload hx hb d_MO_good_109 (lv_at hl 4 rfl) ?_
          refine lv_iconst (v := 4) hx hb d_MO_good_111 (by decide) ?_
          refine lv_irem hx hb d_MO_good_112 (by decide) ?_
          refine lv_isub hx hb d_MO_good_113 ?_
          refine lv_imul hx hb d_MO_good_114 ?_
          refine lv_ishr hx hb d_MO_good_115 ?_
          refine lv_sipush (v := 255) hx hb d_MO_good_116 (by decide) ?_
          refine lv_iand hx hb d_MO_good_119 ?_
          refine lv_if_ne (tgt := 127) hx hb d_MO_good_120 (by decide) (fun h18 => ?_) (fun h18 => ?_)
          · refine lv_iconst (v := 0) hx hb d_MO_good_127 (by decide) ?_
            refine lv_istore (lv' := [(5, .int (0 : Int32)), (0, .ref h), (2, .int x2), (3, .int x3), (6, .int x6)]) hx hb d_MO_good_128 hl (by decide) rfl (fun ls hl => ?_)
            refine lv_iinc (k := 4) (v := (x6 + (1 : Int32))) (lv' := [(6, .int (x6 + (1 : Int32))), (5, .int (0 : Int32)), (0, .ref h), (2, .int x2), (3, .int x3)]) hx hb d_MO_good_130 hl rfl rfl (by decide) rfl (fun ls hl => ?_)
            refine lv_goto (tgt := 81) hx hb d_MO_good_133 (by decide) ?_
            have e0 : (f_MO_good_81 so th le lo da si kc bg tx wi nw vv aw_ fl cn (n + 1) x2 x3 x5 x6 y0_11 y3 y4 y5 y6 y7) = f_MO_good_81 so th le lo da si kc bg tx wi nw vv aw_ fl cn n x2 x3 (0 : Int32) (x6 + (1 : Int32)) y0_11 y3 y4 y5 y6 y7 := by rw [f_MO_good_81, if_neg h16, if_neg h17, if_neg h18]
            rw [e0]
            exact ih x2 x3 (0 : Int32) (x6 + (1 : Int32)) y0_11 y3 y4 y5 y6 y7 _ _ ls ⟨hI.1, hI.2.1, (lp_up hI.2.2.1 (by assumption)).1.1, by simp, hI.2.2.2.2⟩ (lp_ms hI.2.2.1 (by assumption) hm) (lv_sub hl [2, 3, 4, 1, 0] rfl) hP hD hS
          · refine lv_iconst (v := 1) hx hb d_MO_good_123 (by decide) ?_
            refine lv_goto (tgt := 128) hx hb d_MO_good_124 (by decide) ?_
            refine lv_istore (lv' := [(5, .int (1 : Int32)), (0, .ref h), (2, .int x2), (3, .int x3), (6, .int x6)]) hx hb d_MO_good_128 hl (by decide) rfl (fun ls hl => ?_)
            refine lv_iinc (k := 4) (v := (x6 + (1 : Int32))) (lv' := [(6, .int (x6 + (1 : Int32))), (5, .int (1 : Int32)), (0, .ref h), (2, .int x2), (3, .int x3)]) hx hb d_MO_good_130 hl rfl rfl (by decide) rfl (fun ls hl => ?_)
            refine lv_goto (tgt := 81) hx hb d_MO_good_133 (by decide) ?_
            have e0 : (f_MO_good_81 so th le lo da si kc bg tx wi nw vv aw_ fl cn (n + 1) x2 x3 x5 x6 y0_11 y3 y4 y5 y6 y7) = f_MO_good_81 so th le lo da si kc bg tx wi nw vv aw_ fl cn n x2 x3 (1 : Int32) (x6 + (1 : Int32)) y0_11 y3 y4 y5 y6 y7 := by rw [f_MO_good_81, if_neg h16, if_neg h17, if_pos h18]
            rw [e0]
            exact ih x2 x3 (1 : Int32) (x6 + (1 : Int32)) y0_11 y3 y4 y5 y6 y7 _ _ ls ⟨hI.1, hI.2.1, (lp_up hI.2.2.1 (by assumption)).1.1, by simp, hI.2.2.2.2⟩ (lp_ms hI.2.2.1 (by assumption) hm) (lv_sub hl [2, 3, 4, 1, 0] rfl) hP hD hS
  have hl := lv_entry ([.ref h, .int so]) (n := 7) (Nat.le_of_ble_eq_true rfl)
  rw [lg_entry_eq]
  generalize (lg_sl ([.ref h, .int so]) ++ List.replicate (7 - (lg_sl ([.ref h, .int so])).length) Slot.unset).toArray = ls at hl ⊢
  have hl : lv_has ls 7 [(0, .ref h), (1, .int so)] := hl
  refine lv_bipush (v := 16) hx hb d_MO_good_0 (by decide) ?_
  refine lv_iload_n hx hb d_MO_good_2 rfl (lv_at hl 1 rfl) ?_
  refine lv_imul hx hb d_MO_good_3 ?_
  refine lv_istore_n (lv' := [(2, .int ((16 : Int32) * so)), (0, .ref h), (1, .int so)]) hx hb d_MO_good_4 rfl hl (by decide) rfl (fun ls hl => ?_)
  refine lv_iload_n hx hb d_MO_good_5 rfl (lv_at hl 2 rfl) ?_
  refine lv_iconst (v := 2) hx hb d_MO_good_6 (by decide) ?_
  refine lv_idiv hx hb d_MO_good_7 (by decide) ?_
  refine lv_istore_n (lv' := [(3, .int (so / (2 : Int32))), (2, .int ((16 : Int32) * so)), (0, .ref h), (1, .int so)]) hx hb d_MO_good_8 rfl hl (by decide) rfl (fun ls hl => ?_)
  refine lv_aload_n hx hb d_MO_good_9 rfl (lv_at hl 2 rfl) ?_
  refine va_get (D := (dC, dI)) (ci := 5) (v := .ref af) (C := R_MO) (T := F_MO) (N := 17) hx hb hts in_MO hown hK hP 0 rfl rfl 1 (by decide) (hts _ gw_519) (fun _ h9 => h9) rfl d_MO_good_10 ?_
  refine lv_iload_n hx hb d_MO_good_13 rfl (lv_at hl 1 rfl) ?_
  refine va_iald hx hb hK hP 8 0 rfl rfl (ix_16 hso) d_MO_good_14 ?_
  refine lv_sipush (v := 255) hx hb d_MO_good_15 (by decide) ?_
  refine lv_iand hx hb d_MO_good_18 ?_
  refine lv_istore (lv' := [(4, .int ((fl (((16 : Int32) * so)).toNatClampNeg) &&& (255 : Int32))), (3, .int (so / (2 : Int32))), (2, .int ((16 : Int32) * so)), (0, .ref h), (1, .int so)]) hx hb d_MO_good_19 hl (by decide) rfl (fun ls hl => ?_)
  refine lv_aload_n hx hb d_MO_good_21 rfl (lv_at hl 3 rfl) ?_
  refine va_get (D := (dC, dI)) (ci := 5) (v := .ref af) (C := R_MO) (T := F_MO) (N := 17) hx hb hts in_MO hown hK hP 0 rfl rfl 1 (by decide) (hts _ gw_519) (fun _ h9 => h9) rfl d_MO_good_22 ?_
  refine lv_iload_n hx hb d_MO_good_25 rfl (lv_at hl 2 rfl) ?_
  refine va_iald hx hb hK hP 8 0 rfl rfl (ix_16 hso) d_MO_good_26 ?_
  refine lv_bipush (v := 16) hx hb d_MO_good_27 (by decide) ?_
  refine lv_ishr hx hb d_MO_good_29 ?_
  refine lv_ldc (v := 65535) hx hb hown (hts _ gw_633) d_MO_good_30 ?_
  refine lv_iand hx hb d_MO_good_32 ?_
  refine lv_iload_n hx hb d_MO_good_33 rfl (lv_at hl 1 rfl) ?_
  refine lv_icmp_ne (tgt := 74) hx hb d_MO_good_34 (by decide) (fun h12 => ?_) (fun h12 => ?_)
  · refine lv_iconst (v := 0) hx hb d_MO_good_74 (by decide) ?_
    refine lv_istore (lv' := [(5, .int (0 : Int32)), (4, .int ((fl (((16 : Int32) * so)).toNatClampNeg) &&& (255 : Int32))), (3, .int (so / (2 : Int32))), (2, .int ((16 : Int32) * so)), (0, .ref h), (1, .int so)]) hx hb d_MO_good_75 hl (by decide) rfl (fun ls hl => ?_)
    refine lv_iload hx hb d_MO_good_77 (lv_at hl 1 rfl) ?_
    refine lv_istore (lv' := [(6, .int ((fl (((16 : Int32) * so)).toNatClampNeg) &&& (255 : Int32))), (5, .int (0 : Int32)), (4, .int ((fl (((16 : Int32) * so)).toNatClampNeg) &&& (255 : Int32))), (3, .int (so / (2 : Int32))), (2, .int ((16 : Int32) * so)), (0, .ref h), (1, .int so)]) hx hb d_MO_good_79 hl (by decide) rfl (fun ls hl => ?_)
    have e0 : (f_MO_good so th le lo da si kc bg tx wi nw vv aw_ fl cn) = f_MO_good_81 so th le lo da si kc bg tx wi nw vv aw_ fl cn 25 ((16 : Int32) * so) (so / (2 : Int32)) (0 : Int32) ((fl (((16 : Int32) * so)).toNatClampNeg) &&& (255 : Int32)) si tx wi nw vv aw_ := by rw [f_MO_good, if_neg h12]
    rw [e0]
    exact lp_81 25 ((16 : Int32) * so) (so / (2 : Int32)) (0 : Int32) ((fl (((16 : Int32) * so)).toNatClampNeg) &&& (255 : Int32)) si tx wi nw vv aw_ _ _ ls ⟨rfl, rfl, and255 _, by simp, hsi⟩ (ms24 (and255 _)) (lv_sub hl [5, 4, 3, 1, 0] rfl) hP hD hS
  · refine lv_iload hx hb d_MO_good_37 (lv_at hl 0 rfl) ?_
    refine lv_bipush (v := 24) hx hb d_MO_good_39 (by decide) ?_
    refine lv_icmp_gt (tgt := 74) hx hb d_MO_good_41 (by decide) (fun h13 => ?_) (fun h13 => ?_)
    · refine lv_iconst (v := 0) hx hb d_MO_good_74 (by decide) ?_
      refine lv_istore (lv' := [(5, .int (0 : Int32)), (4, .int ((fl (((16 : Int32) * so)).toNatClampNeg) &&& (255 : Int32))), (3, .int (so / (2 : Int32))), (2, .int ((16 : Int32) * so)), (0, .ref h), (1, .int so)]) hx hb d_MO_good_75 hl (by decide) rfl (fun ls hl => ?_)
      refine lv_iload hx hb d_MO_good_77 (lv_at hl 1 rfl) ?_
      refine lv_istore (lv' := [(6, .int ((fl (((16 : Int32) * so)).toNatClampNeg) &&& (255 : Int32))), (5, .int (0 : Int32)), (4, .int ((fl (((16 : Int32) * so)).toNatClampNeg) &&& (255 : Int32))), (3, .int (so / (2 : Int32))), (2, .int ((16 : Int32) * so)), (0, .ref h), (1, .int so)]) hx hb d_MO_good_79 hl (by decide) rfl (fun ls hl => ?_)
      have e0 : (f_MO_good so th le lo da si kc bg tx wi nw vv aw_ fl cn) = f_MO_good_81 so th le lo da si kc bg tx wi nw vv aw_ fl cn 25 ((16 : Int32) * so) (so / (2 : Int32)) (0 : Int32) ((fl (((16 : Int32) * so)).toNatClampNeg) &&& (255 : Int32)) si tx wi nw vv aw_ := by rw [f_MO_good, if_pos h12, if_pos h13]
      rw [e0]
      exact lp_81 25 ((16 : Int32) * so) (so / (2 : Int32)) (0 : Int32) ((fl (((16 : Int32) * so)).toNatClampNeg) &&& (255 : Int32)) si tx wi nw vv aw_ _ _ ls ⟨rfl, rfl, and255 _, by simp, hsi⟩ (ms24 (and255 _)) (lv_sub hl [5, 4, 3, 1, 0] rfl) hP hD hS
    · refine lv_aload_n hx hb d_MO_good_44 rfl (lv_at hl 3 rfl) ?_
      refine va_get (D := (dC, dI)) (ci := 5) (v := .ref af) (C := R_MO) (T := F_MO) (N := 17) hx hb hts in_MO hown hK hP 0 rfl rfl 1 (by decide) (hts _ gw_519) (fun _ h9 => h9) rfl d_MO_good_45 ?_
      refine lv_iload_n hx hb d_MO_good_48 rfl (lv_at hl 2 rfl) ?_
      refine lv_bipush (v := 7) hx hb d_MO_good_49 (by decide) ?_
      refine lv_iadd hx hb d_MO_good_51 ?_
      refine va_iald hx hb hK hP 8 0 rfl rfl (ix_f7 hso) d_MO_good_52 ?_
      refine lv_if_ne (tgt := 74) hx hb d_MO_good_53 (by decide) (fun h14 => ?_) (fun h14 => ?_)
      · refine lv_iconst (v := 0) hx hb d_MO_good_74 (by decide) ?_
        refine lv_istore (lv' := [(5, .int (0 : Int32)), (4, .int ((fl (((16 : Int32) * so)).toNatClampNeg) &&& (255 : Int32))), (3, .int (so / (2 : Int32))), (2, .int ((16 : Int32) * so)), (0, .ref h), (1, .int so)]) hx hb d_MO_good_75 hl (by decide) rfl (fun ls hl => ?_)
        refine lv_iload hx hb d_MO_good_77 (lv_at hl 1 rfl) ?_
        refine lv_istore (lv' := [(6, .int ((fl (((16 : Int32) * so)).toNatClampNeg) &&& (255 : Int32))), (5, .int (0 : Int32)), (4, .int ((fl (((16 : Int32) * so)).toNatClampNeg) &&& (255 : Int32))), (3, .int (so / (2 : Int32))), (2, .int ((16 : Int32) * so)), (0, .ref h), (1, .int so)]) hx hb d_MO_good_79 hl (by decide) rfl (fun ls hl => ?_)
        have e0 : (f_MO_good so th le lo da si kc bg tx wi nw vv aw_ fl cn) = f_MO_good_81 so th le lo da si kc bg tx wi nw vv aw_ fl cn 25 ((16 : Int32) * so) (so / (2 : Int32)) (0 : Int32) ((fl (((16 : Int32) * so)).toNatClampNeg) &&& (255 : Int32)) si tx wi nw vv aw_ := by rw [f_MO_good, if_pos h12, if_neg h13, if_neg h14]
        rw [e0]
        exact lp_81 25 ((16 : Int32) * so) (so / (2 : Int32)) (0 : Int32) ((fl (((16 : Int32) * so)).toNatClampNeg) &&& (255 : Int32)) si tx wi nw vv aw_ _ _ ls ⟨rfl, rfl, and255 _, by simp, hsi⟩ (ms24 (and255 _)) (lv_sub hl [5, 4, 3, 1, 0] rfl) hP hD hS
      · refine lv_aload_n hx hb d_MO_good_56 rfl (lv_at hl 3 rfl) ?_
        refine lv_iload_n hx hb d_MO_good_57 rfl (lv_at hl 4 rfl) ?_
        have hPc := hP.sub (ws' := [(h, .inr (5, [.int th, .ref af, .ref ak, .ref ar, .ref ag, .int le, .int lo, .int da, .ref ad, .ref ac, .ref ab, .int si, .ref ax, .ref aw, .ref an, .ref av, .ref aa])), (af, .inl (cI, 70, .inl fl))]) [0, 8] rfl
        have hDc := hD.sub (ws' := [(h, .inr (5, [.int th, .ref af, .ref ak, .ref ar, .ref ag, .int le, .int lo, .int da, .ref ad, .ref ac, .ref ab, .int si, .ref ax, .ref aw, .ref an, .ref av, .ref aa])), (af, .inl (cI, 70, .inl fl))]) [0, 8] (by decide) rfl
        have hFc := va_free (wc := [(h, .inr (5, [.int th, .ref af, .ref ak, .ref ar, .ref ag, .int le, .int lo, .int da, .ref ad, .ref ac, .ref ab, .int si, .ref ax, .ref aw, .ref an, .ref av, .ref aa])), (af, .inl (cI, 70, .inl fl))]) hD hS hA [0, 8] rfl
        refine va_calli (va_runV (As := [.int so]) (rest := []) ⟨hx, hb, hml, hown, hts⟩ (c_MO_versionOf l dC dI cI cJ h af ak ar ag ad ac ab ax aw an av aa _ so th le lo da si fl hso) ⟨callB_of 1 hts (bc_good gw_636) rfl rfl rfl (hts _ gw_6) (hts _ gw_634) (by decide +kernel) ⟨Nat.le_of_ble_eq_true rfl, Nat.le_of_ble_eq_true rfl⟩, (hts _ gw_635), (hts _ gw_720)⟩ ⟨bc_blind, va_recv (q0 := 0) hK hP (q := (R_MO, F_MO, 17)) rfl rfl, fun U hU hW => ⟨rfl, bc_give hPc hDc hK hE hS hFc U hU hW⟩⟩ rfl rfl hl.1 rfl (lv_room (Nat.le_of_ble_eq_true rfl)) d_MO_good_58 ⟨Nat.le_of_ble_eq_true rfl, Nat.le_of_ble_eq_true rfl⟩) hS (fun q _ h => hFc q h) hFc (fun r u t H9 locs ht hvm hp hB hz1 hk1 hS => ?_)
        subst hp
        obtain ⟨hP, hD⟩ := va_join (wr := [(ac, .inl (cJ, 64, .inr (.inl kc))), (ab, .inl (cJ, 8, .inr (.inl bg))), (ax, .inl (cJ, 48, .inr (.inl tx))), (aw, .inl (cJ, 64, .inr (.inl wi))), (an, .inl (cJ, 8, .inr (.inl nw))), (av, .inl (cJ, 8, .inr (.inl vv))), (aa, .inl (cI, 8, .inl aw_)), (ak, .inl (cI, 2, .inl cn))]) (w1 := [(h, .inr (5, [.int th, .ref af, .ref ak, .ref ar, .ref ag, .int le, .int lo, .int da, .ref ad, .ref ac, .ref ab, .int si, .ref ax, .ref aw, .ref an, .ref av, .ref aa])), (af, .inl (cI, 70, .inl fl))]) hP hD [0, 8] [1, 2, 3, 4, 5, 6, 7, 9] rfl rfl (by decide) (by decide) hk1 hFc (ht ▸ hB.1) hB.2.2
        have hP := hP.sub (ws' := [(h, .inr (5, [.int th, .ref af, .ref ak, .ref ar, .ref ag, .int le, .int lo, .int da, .ref ad, .ref ac, .ref ab, .int si, .ref ax, .ref aw, .ref an, .ref av, .ref aa])), (ac, .inl (cJ, 64, .inr (.inl kc))), (ab, .inl (cJ, 8, .inr (.inl bg))), (ax, .inl (cJ, 48, .inr (.inl tx))), (aw, .inl (cJ, 64, .inr (.inl wi))), (an, .inl (cJ, 8, .inr (.inl nw))), (av, .inl (cJ, 8, .inr (.inl vv))), (aa, .inl (cI, 8, .inl aw_)), (af, .inl (cI, 70, .inl fl)), (ak, .inl (cI, 2, .inl cn))]) [8, 0, 1, 2, 3, 4, 5, 6, 9, 7] rfl
        have hD := hD.sub (ws' := [(h, .inr (5, [.int th, .ref af, .ref ak, .ref ar, .ref ag, .int le, .int lo, .int da, .ref ad, .ref ac, .ref ab, .int si, .ref ax, .ref aw, .ref an, .ref av, .ref aa])), (ac, .inl (cJ, 64, .inr (.inl kc))), (ab, .inl (cJ, 8, .inr (.inl bg))), (ax, .inl (cJ, 48, .inr (.inl tx))), (aw, .inl (cJ, 64, .inr (.inl wi))), (an, .inl (cJ, 8, .inr (.inl nw))), (av, .inl (cJ, 8, .inr (.inl vv))), (aa, .inl (cI, 8, .inl aw_)), (af, .inl (cI, 70, .inl fl)), (ak, .inl (cI, 2, .inl cn))]) [8, 0, 1, 2, 3, 4, 5, 6, 9, 7] (by decide) rfl
        generalize H9 = H at hP hS ⊢
        refine lv_aload_n hx hb d_MO_good_61 rfl (lv_at hl 3 rfl) ?_
        refine va_get (D := (dC, dI)) (ci := 5) (v := .ref ak) (C := R_MO) (T := F_MO) (N := 17) hx hb hts in_MO hown hK hP 0 rfl rfl 2 (by decide) (hts _ gw_520) (fun _ h9 => h9) rfl d_MO_good_62 ?_
        refine lv_iload_n hx hb d_MO_good_65 rfl (lv_at hl 1 rfl) ?_
        refine va_iald hx hb hK hP 9 0 rfl rfl (ix_st (st_half hso)) d_MO_good_66 ?_
        refine lv_icmp_lt (tgt := 74) hx hb d_MO_good_67 (by decide) (fun h15 => ?_) (fun h15 => ?_)
        · refine lv_iconst (v := 0) hx hb d_MO_good_74 (by decide) ?_
          refine lv_istore (lv' := [(5, .int (0 : Int32)), (4, .int ((fl (((16 : Int32) * so)).toNatClampNeg) &&& (255 : Int32))), (3, .int (so / (2 : Int32))), (2, .int ((16 : Int32) * so)), (0, .ref h), (1, .int so)]) hx hb d_MO_good_75 hl (by decide) rfl (fun ls hl => ?_)
          refine lv_iload hx hb d_MO_good_77 (lv_at hl 1 rfl) ?_
          refine lv_istore (lv' := [(6, .int ((fl (((16 : Int32) * so)).toNatClampNeg) &&& (255 : Int32))), (5, .int (0 : Int32)), (4, .int ((fl (((16 : Int32) * so)).toNatClampNeg) &&& (255 : Int32))), (3, .int (so / (2 : Int32))), (2, .int ((16 : Int32) * so)), (0, .ref h), (1, .int so)]) hx hb d_MO_good_79 hl (by decide) rfl (fun ls hl => ?_)
          have e0 : (f_MO_good so th le lo da si kc bg tx wi nw vv aw_ fl cn) = f_MO_good_81 so th le lo da si kc bg tx wi nw vv aw_ fl cn 25 ((16 : Int32) * so) (so / (2 : Int32)) (0 : Int32) ((fl (((16 : Int32) * so)).toNatClampNeg) &&& (255 : Int32)) si tx wi nw vv aw_ := by rw [f_MO_good, if_pos h12, if_neg h13, if_pos h14, if_pos h15]
          rw [e0]
          exact lp_81 25 ((16 : Int32) * so) (so / (2 : Int32)) (0 : Int32) ((fl (((16 : Int32) * so)).toNatClampNeg) &&& (255 : Int32)) si tx wi nw vv aw_ _ _ ls ⟨rfl, rfl, and255 _, by simp, hsi⟩ (ms24 (and255 _)) (lv_sub hl [5, 4, 3, 1, 0] rfl) hP hD hS
        · refine lv_iconst (v := 1) hx hb d_MO_good_70 (by decide) ?_
          refine lv_goto (tgt := 75) hx hb d_MO_good_71 (by decide) ?_
          refine lv_istore (lv' := [(5, .int (1 : Int32)), (4, .int ((fl (((16 : Int32) * so)).toNatClampNeg) &&& (255 : Int32))), (3, .int (so / (2 : Int32))), (2, .int ((16 : Int32) * so)), (0, .ref h), (1, .int so)]) hx hb d_MO_good_75 hl (by decide) rfl (fun ls hl => ?_)
          refine lv_iload hx hb d_MO_good_77 (lv_at hl 1 rfl) ?_
          refine lv_istore (lv' := [(6, .int ((fl (((16 : Int32) * so)).toNatClampNeg) &&& (255 : Int32))), (5, .int (1 : Int32)), (4, .int ((fl (((16 : Int32) * so)).toNatClampNeg) &&& (255 : Int32))), (3, .int (so / (2 : Int32))), (2, .int ((16 : Int32) * so)), (0, .ref h), (1, .int so)]) hx hb d_MO_good_79 hl (by decide) rfl (fun ls hl => ?_)
          have e0 : (f_MO_good so th le lo da si kc bg tx wi nw vv aw_ fl cn) = f_MO_good_81 so th le lo da si kc bg tx wi nw vv aw_ fl cn 25 ((16 : Int32) * so) (so / (2 : Int32)) (1 : Int32) ((fl (((16 : Int32) * so)).toNatClampNeg) &&& (255 : Int32)) si tx wi nw vv aw_ := by rw [f_MO_good, if_pos h12, if_neg h13, if_pos h14, if_neg h15]
          rw [e0]
          exact lp_81 25 ((16 : Int32) * so) (so / (2 : Int32)) (1 : Int32) ((fl (((16 : Int32) * so)).toNatClampNeg) &&& (255 : Int32)) si tx wi nw vv aw_ _ _ ls ⟨rfl, rfl, and255 _, by simp, hsi⟩ (ms24 (and255 _)) (lv_sub hl [5, 4, 3, 1, 0] rfl) hP hD hS
