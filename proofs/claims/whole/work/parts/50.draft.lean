/-! The draft and payload: class against reference. -/
def wd4 (f : Nat → Nat) (j : Nat) : Nat := ((f (4 * j) * 256 + f (4 * j + 1)) * 256 + f (4 * j + 2)) * 256 + f (4 * j + 3)
def draftR (dl da : Int32) (dw dr : Nat → Int32) : Prop := ∃ (d : Nat) (bt : Nat → Nat), d ≤ 24 ∧ dl = nI d ∧ da = nI d ∧ (∀ i, bt i < 256) ∧ (∀ i, d ≤ i → bt i = 0) ∧ (∀ i, i < d → dr i = nI (bt i)) ∧ ∀ j, j < 6 → dw j = nI (wd4 bt j)
theorem draft_0 {dw : Nat → Int32} (dr : Nat → Int32) (h : ∀ j, j < 6 → dw j = 0) : draftR 0 0 dw dr := by
  refine ⟨0, fun _ => 0, by decide, rfl, rfl, fun _ => Nat.zero_lt_succ _, fun _ _ => rfl, fun i hi => absurd hi (Nat.not_lt_zero _), fun j hj => ?_⟩
  have e : wd4 (fun _ => 0) j = 0 := by show ((0 * 256 + 0) * 256 + 0) * 256 + 0 = 0; decide
  rw [h j hj, e]
  rfl
def bt' (bt : Nat → Nat) (d c : Nat) : Nat → Nat := fun i => if i = d then c else bt i
theorem nI_or (i a b : Nat) (hb : b < 2 ^ i) : nI (2 ^ i * a) ||| nI b = nI (2 ^ i * a + b) := by
  apply Int32.toBitVec_inj.mp
  rw [Int32.toBitVec_or]
  show BitVec.ofNat 32 _ ||| BitVec.ofNat 32 _ = BitVec.ofNat 32 _
  rw [← BitVec.ofNat_or, Nat.two_pow_add_eq_or_of_lt hb]
theorem nI_shl (c k : Nat) (y : Int32) (hk : (y.toBitVec.smod 32).toNat = k) : nI c <<< y = nI (c * 2 ^ k) := by
  apply Int32.toBitVec_inj.mp
  rw [Int32.toBitVec_shiftLeft, BitVec.shiftLeft_eq', hk]
  show BitVec.ofNat 32 c <<< k = BitVec.ofNat 32 _
  apply BitVec.eq_of_toNat_eq
  rw [BitVec.toNat_shiftLeft, BitVec.toNat_ofNat, BitVec.toNat_ofNat, Nat.shiftLeft_eq, Nat.mod_mul_mod]
theorem app_word {d c : Nat} (bt : Nat → Nat) (hb : ∀ i, bt i < 256) (hz : ∀ i, d ≤ i → bt i = 0) (hc : c < 256) : nI (wd4 bt (d / 4)) ||| (nI c <<< ((24 - 8 * nI (d % 4)) &&& 31)) = nI (wd4 (bt' bt d c) (d / 4)) := by
  have h0 := hb (4 * (d / 4))
  have h1 := hb (4 * (d / 4) + 1)
  have h2 := hb (4 * (d / 4) + 2)
  have hr : d % 4 = 0 ∨ d % 4 = 1 ∨ d % 4 = 2 ∨ d % 4 = 3 := by omega
  unfold wd4 bt'
  rcases hr with r | r | r | r <;> rw [r]
  · rw [nI_shl c 24 _ (by decide), hz (4 * (d / 4)) (by omega), hz (4 * (d / 4) + 1) (by omega), hz (4 * (d / 4) + 2) (by omega), hz (4 * (d / 4) + 3) (by omega), if_pos (by omega), if_neg (by omega), if_neg (by omega), if_neg (by omega)]
    rw [show ((0 * 256 + 0) * 256 + 0) * 256 + 0 = 2 ^ 32 * 0 by decide, nI_or 32 0 _ (by omega)]
    congr 1
    omega
  · rw [nI_shl c 16 _ (by decide), hz (4 * (d / 4) + 1) (by omega), hz (4 * (d / 4) + 2) (by omega), hz (4 * (d / 4) + 3) (by omega), if_neg (by omega), if_pos (by omega), if_neg (by omega), if_neg (by omega)]
    rw [show ((bt (4 * (d / 4)) * 256 + 0) * 256 + 0) * 256 + 0 = 2 ^ 24 * bt (4 * (d / 4)) by omega, nI_or 24 _ _ (by omega)]
    congr 1
    omega
  · rw [nI_shl c 8 _ (by decide), hz (4 * (d / 4) + 2) (by omega), hz (4 * (d / 4) + 3) (by omega), if_neg (by omega), if_neg (by omega), if_pos (by omega), if_neg (by omega)]
    rw [show ((bt (4 * (d / 4)) * 256 + bt (4 * (d / 4) + 1)) * 256 + 0) * 256 + 0 = 2 ^ 16 * (bt (4 * (d / 4)) * 256 + bt (4 * (d / 4) + 1)) by omega, nI_or 16 _ _ (by omega)]
    congr 1
    omega
  · rw [nI_shl c 0 _ (by decide), hz (4 * (d / 4) + 3) (by omega), if_neg (by omega), if_neg (by omega), if_neg (by omega), if_pos (by omega)]
    rw [show ((bt (4 * (d / 4)) * 256 + bt (4 * (d / 4) + 1)) * 256 + bt (4 * (d / 4) + 2)) * 256 + 0 = 2 ^ 8 * ((bt (4 * (d / 4)) * 256 + bt (4 * (d / 4) + 1)) * 256 + bt (4 * (d / 4) + 2)) by omega, nI_or 8 _ _ (by omega)]
    congr 1
    omega
theorem app_other {d c j : Nat} (bt : Nat → Nat) (h : ¬ j = d / 4) : wd4 (bt' bt d c) j = wd4 bt j := by
  unfold wd4 bt'
  rw [if_neg (by omega), if_neg (by omega), if_neg (by omega), if_neg (by omega)]
/-! the byte -/
theorem byte64 (bb : Int64) {m : Nat} (hm : m < 8) : (jsr bb (8 * nI m) &&& 255).toInt32 = (jul bb (8 * nI m)).toInt32 &&& 255 := by
  have key : ∀ (y : Int32) (k : Nat), k ≤ 56 → ((y.toInt64 &&& 63).toBitVec.smod 64).toNat = k → ((y.toInt64.toUInt64 &&& Int64.toUInt64 63).toBitVec % 64).toNat = k → (jsr bb y &&& 255).toInt32 = (jul bb y).toInt32 &&& 255 := by
    intro y k hk h1 h2
    apply Int32.toBitVec_inj.mp
    rw [Int32.toBitVec_and, i32_bv, i32_bv, Int64.toBitVec_and]
    have e1 : (jsr bb y).toBitVec = bb.toBitVec.sshiftRight ((y.toInt64 &&& 63).toBitVec.smod 64).toNat := rfl
    have e2 : (jul bb y).toBitVec = bb.toBitVec >>> ((y.toInt64.toUInt64 &&& Int64.toUInt64 63).toBitVec % 64).toNat := rfl
    rw [e1, e2, h1, h2]
    have m1 : ∀ i : Fin 64, (Int64.toBitVec 255).getLsbD i.val = decide (i.val < 8) := by decide
    have m2 : ∀ i : Fin 32, (Int32.toBitVec 255).getLsbD i.val = decide (i.val < 8) := by decide
    apply BitVec.eq_of_getLsbD_eq
    intro i hi
    rw [BitVec.getLsbD_setWidth, BitVec.getLsbD_and, BitVec.getLsbD_and, BitVec.getLsbD_setWidth, m1 ⟨i, by omega⟩, m2 ⟨i, hi⟩, BitVec.getLsbD_sshiftRight, BitVec.getLsbD_ushiftRight]
    by_cases h8 : i < 8
    · have h3 : k + i < 64 := by omega
      have h4 : ¬ 64 ≤ i := by omega
      simp [h8, hi, h3, h4]
    · simp [h8]
  have hm' : m = 0 ∨ m = 1 ∨ m = 2 ∨ m = 3 ∨ m = 4 ∨ m = 5 ∨ m = 6 ∨ m = 7 := by omega
  rcases hm' with rfl | rfl | rfl | rfl | rfl | rfl | rfl | rfl
  · exact key _ 0 (by decide) (by decide) (by decide)
  · exact key _ 8 (by decide) (by decide) (by decide)
  · exact key _ 16 (by decide) (by decide) (by decide)
  · exact key _ 24 (by decide) (by decide) (by decide)
  · exact key _ 32 (by decide) (by decide) (by decide)
  · exact key _ 40 (by decide) (by decide) (by decide)
  · exact key _ 48 (by decide) (by decide) (by decide)
  · exact key _ 56 (by decide) (by decide) (by decide)
theorem nI_m1 (m : Nat) : nI (m + 1) + (-1) = nI m := pk_m1 m
/-- the bytes are taken, m of them still to come -/
theorem app_loop (bb : Int64) (n0 dl0 : Int32) (dw0 : Nat → Int32) (th le lo da0 si : Int32) (dr0 : Nat → Int32) : ∀ (m n n' d : Nat) (dw dr : Nat → Int32), m ≤ 8 → d + m ≤ 24 → m < n → m < n' → draftR (nI d) (nI d) dw dr → ∃ (dw' dr' : Nat → Int32), f_DR_append_5 bb n0 dl0 dw0 n (nI m - 1) (nI d) dw = (nI (d + m), dw') ∧ f_MO_payload_40 bb n0 th le lo da0 si dr0 n' (nI m - 1) 0 (nI d) dr = (0, nI (d + m), dr') ∧ draftR (nI (d + m)) (nI (d + m)) dw' dr' := by
  intro m
  induction m with
  | zero =>
    intro n n' d dw dr _ _ hn hn' h
    obtain ⟨n, rfl⟩ : ∃ k, n = k + 1 := ⟨n - 1, by omega⟩
    obtain ⟨n', rfl⟩ : ∃ k, n' = k + 1 := ⟨n' - 1, by omega⟩
    refine ⟨dw, dr, ?_, ?_, h⟩
    · rw [f_DR_append_5, if_pos (by decide)]; rfl
    · rw [f_MO_payload_40, if_pos (by decide)]; rfl
  | succ m ih =>
    intro n n' d dw dr hm hd hn hn' h
    obtain ⟨n, rfl⟩ : ∃ k, n = k + 1 := ⟨n - 1, by omega⟩
    obtain ⟨n', rfl⟩ : ∃ k, n' = k + 1 := ⟨n' - 1, by omega⟩
    have em : nI (m + 1) - 1 = nI m := by rw [show (1 : Int32) = nI 1 from rfl, pk_sub (by omega), Nat.add_sub_cancel]
    have em2 : nI m + (-1) = nI m - 1 := by rw [Int32.sub_eq_add_neg]
    have hp : ¬ nI m < 0 := Int32.not_lt.mpr (nI_pos' (by omega))
    obtain ⟨c, hc, ec⟩ := pk_andE ((jul bb (8 * nI m)).toInt32) (m := 255) 8 (by decide)
    obtain ⟨d', bt, h1, h2, h3, h4, h5, h6, h7⟩ := h
    have hdd : d' = d := by rw [nI_eq (by omega) (by omega)] at h2; omega
    subst hdd
    have h2' : draftR (nI (d' + 1)) (nI (d' + 1)) (upd dw (d' / 4) (nI (wd4 (bt' bt d' c) (d' / 4)))) (upd dr d' (nI c)) := by
      refine ⟨d' + 1, bt' bt d' c, by omega, rfl, rfl, fun i => ?_, fun i hi => ?_, fun i hi => ?_, fun j hj => ?_⟩
      · unfold bt'; by_cases q : i = d'
        · rw [if_pos q]; exact hc
        · rw [if_neg q]; exact h4 i
      · unfold bt'; rw [if_neg (by omega)]; exact h5 i (by omega)
      · unfold bt'; by_cases q : i = d'
        · rw [if_pos q, q]; exact pk_us
        · rw [if_neg q, pk_un q]; exact h6 i (by omega)
      · by_cases q : j = d' / 4
        · rw [q]; exact pk_us
        · rw [pk_un q, app_other bt q]; exact h7 j hj
    obtain ⟨dw', dr', a1, a2, a3⟩ := ih n n' (d' + 1) _ _ (by omega) (by omega) (by omega) (by omega) h2'
    refine ⟨dw', dr', ?_, ?_, by rw [show d' + (m + 1) = d' + 1 + m by omega]; exact a3⟩
    · rw [f_DR_append_5, em, if_neg hp, if_neg (by rw [le_lit (l := 24) (c := 24) rfl (by decide) (by omega)]; omega), em2, nI_1, ec, show (4 : Int32) = nI 4 from rfl, pk_rem (by omega) (by decide) (by decide), pk_div (by omega) (by decide) (by decide), nI_clamp (by omega), h7 _ (by omega), app_word bt h4 h5 hc, a1, show d' + (m + 1) = d' + 1 + m by omega]
    · rw [f_MO_payload_40, em, if_neg hp, if_pos rfl, em2, nI_1, byte64 bb (by omega), ec, nI_clamp (by omega), a2, show d' + (m + 1) = d' + 1 + m by omega]
def POut (c : Nat × Int32 × (Nat → Int32)) (r : Int32 × Int32 × (Nat → Int32)) : Prop := ((c.1 = 0 ∧ r.1 = 0) ∨ (c.1 = 1 ∧ r.1 = 1) ∨ (c.1 = 2 ∧ r.1 = 2)) ∧ draftR c.2.1 r.2.1 c.2.2 r.2.2
theorem pay_stop (bb : Int64) (n0 th le lo da si : Int32) (dr : Nat → Int32) (n : Nat) (x4 t d : Int32) (y : Nat → Int32) (ht : ¬ t = 0) : f_MO_payload_40 bb n0 th le lo da si dr (n + 1) x4 t d y = (t, d, y) := by
  rw [f_MO_payload_40, if_neg ht, ite_self]
theorem payload_rel (bb : Int64) (n0 dl : Int32) (dw : Nat → Int32) (th le lo da si : Int32) (dr : Nat → Int32) (h : draftR dl da dw dr) : POut (f_BC_payload bb n0 dl dw) (f_MO_payload bb n0 th le lo da si dr) := by
  unfold f_BC_payload f_MO_payload
  by_cases c1 : n0 < 1
  · rw [if_pos c1, if_pos c1, pay_stop _ _ _ _ _ _ _ _ _ _ _ _ _ one0]
    exact ⟨Or.inr (Or.inl ⟨rfl, rfl⟩), h⟩
  rw [if_neg c1, if_neg c1]
  by_cases c2 : n0 ≤ 8
  · rw [if_pos c2, if_pos c2]
    have c1' : ¬ n0 < 0 := fun z => c1 (Int32.lt_trans z (by decide))
    obtain ⟨m, hm, rfl⟩ := nI_of c1'
    rw [show (8 : Int32) = nI 8 from rfl, nI_leI hm (by decide)] at c2
    obtain ⟨d, bt, h1, h2, h3, hrest⟩ := h
    subst h2; subst h3
    unfold f_DR_hasRoomFor
    by_cases c3 : d + m ≤ 24
    · rw [if_neg (show ¬ (24 : Int32) < nI d + nI m by rw [nI_add, show (24 : Int32) = nI 24 from rfl, nI_ltI (by decide) (by omega)]; omega), if_neg one0, if_pos (show nI d + nI m ≤ (24 : Int32) by rw [nI_add, show (24 : Int32) = nI 24 from rfl, nI_leI (by omega) (by decide)]; omega)]
      obtain ⟨dw', dr', a1, a2, a3⟩ := app_loop bb (nI m) (nI d) dw th le lo (nI d) si dr m 25 26 d dw dr c2 c3 (by omega) (by omega) ⟨d, bt, h1, rfl, rfl, hrest⟩
      unfold f_DR_append f_BC_payload_c1
      rw [a1, a2]
      exact ⟨Or.inl ⟨rfl, rfl⟩, a3⟩
    · rw [if_pos (show (24 : Int32) < nI d + nI m by rw [nI_add, show (24 : Int32) = nI 24 from rfl, nI_ltI (by decide) (by omega)]; omega), if_pos rfl, if_neg (show ¬ nI d + nI m ≤ (24 : Int32) by rw [nI_add, show (24 : Int32) = nI 24 from rfl, nI_leI (by omega) (by decide)]; omega), pay_stop _ _ _ _ _ _ _ _ _ _ _ _ _ (by decide)]
      exact ⟨Or.inr (Or.inr ⟨rfl, rfl⟩), ⟨d, bt, h1, rfl, rfl, hrest⟩⟩
  · rw [if_neg c2, if_neg c2, pay_stop _ _ _ _ _ _ _ _ _ _ _ _ _ one0]
    exact ⟨Or.inr (Or.inl ⟨rfl, rfl⟩), h⟩

