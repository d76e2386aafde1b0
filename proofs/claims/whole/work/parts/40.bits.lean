/-! The state's bits, class against reference. -/
def mk (hi : BitVec 24) (lo : BitVec 8) : Int32 := Int32.ofBitVec (hi ++ lo)
theorem mk_of (st : Int32) : ∃ hi lo, st = mk hi lo := by
  refine ⟨st.toBitVec.extractLsb' 8 24, st.toBitVec.extractLsb' 0 8, Int32.toBitVec_inj.mp ?_⟩
  show st.toBitVec = _ ++ _
  apply BitVec.eq_of_getLsbD_eq
  intro i hi
  rw [BitVec.getLsbD_append, BitVec.getLsbD_extractLsb', BitVec.getLsbD_extractLsb']
  by_cases h : i < 8
  · simp [h]
  · have h2 : i - 8 < 24 := by omega
    have h3 : 8 + (i - 8) = i := by omega
    simp [h, h2, h3]
theorem mk_and (a c : BitVec 24) (b d : BitVec 8) : mk a b &&& mk c d = mk (a &&& c) (b &&& d) := by
  apply Int32.toBitVec_inj.mp
  rw [Int32.toBitVec_and]
  exact BitVec.and_append
theorem mk_or (a c : BitVec 24) (b d : BitVec 8) : mk a b ||| mk c d = mk (a ||| c) (b ||| d) := by
  apply Int32.toBitVec_inj.mp
  rw [Int32.toBitVec_or]
  exact BitVec.or_append
theorem mk_xor (a c : BitVec 24) (b d : BitVec 8) : mk a b ^^^ mk c d = mk (a ^^^ c) (b ^^^ d) := by
  apply Int32.toBitVec_inj.mp
  rw [Int32.toBitVec_xor]
  exact BitVec.xor_append
theorem mk_andF (a : BitVec 24) (b d : BitVec 8) {c : Int32} (hc : c = mk (-1) d) : mk a b &&& c = mk a (b &&& d) := by
  rw [hc, mk_and, show (-1 : BitVec 24) = BitVec.allOnes 24 by decide, BitVec.and_allOnes]
theorem mk_and0 (a : BitVec 24) (b d : BitVec 8) {c : Int32} (hc : c = mk 0#24 d) : mk a b &&& c = mk 0#24 (b &&& d) := by
  rw [hc, mk_and]
  congr 1
  apply BitVec.eq_of_getLsbD_eq
  intro i hi
  simp
theorem mk_or0 (a : BitVec 24) (b d : BitVec 8) {c : Int32} (hc : c = mk 0#24 d) : mk a b ||| c = mk a (b ||| d) := by
  rw [hc, mk_or]
  congr 1
  apply BitVec.eq_of_getLsbD_eq
  intro i hi
  simp
theorem mk_xor0 (a : BitVec 24) (b d : BitVec 8) {c : Int32} (hc : c = mk 0#24 d) : mk a b ^^^ c = mk a (b ^^^ d) := by
  rw [hc, mk_xor]
  congr 1
  apply BitVec.eq_of_getLsbD_eq
  intro i hi
  simp
theorem mk_inj {a c : BitVec 24} {b d : BitVec 8} (h : mk a b = mk c d) : a = c ∧ b = d := by
  have h2 : a ++ b = c ++ d := congrArg Int32.toBitVec h
  constructor
  · apply BitVec.eq_of_getLsbD_eq
    intro i hi
    have h3 := congrArg (fun z => z.getLsbD (i + 8)) h2
    simp only [BitVec.getLsbD_append] at h3
    rw [if_neg (by omega), if_neg (by omega), Nat.add_sub_cancel] at h3
    exact h3
  · apply BitVec.eq_of_getLsbD_eq
    intro i hi
    have h3 := congrArg (fun z => z.getLsbD i) h2
    simp only [BitVec.getLsbD_append] at h3
    rw [if_pos hi, if_pos hi] at h3
    exact h3
/-- a shift to the right with a mask, of the low bits alone -/
theorem shr_lo (a : BitVec 24) (b m : BitVec 8) (k : Nat) (hm : m.toNat < 2 ^ (8 - k)) : (((a ++ b) : BitVec 32) >>> k) &&& (0#24 ++ m) = 0#24 ++ ((b >>> k) &&& m) := by
  apply BitVec.eq_of_getLsbD_eq
  intro i hi
  rw [BitVec.getLsbD_and, BitVec.getLsbD_ushiftRight, BitVec.getLsbD_append, BitVec.getLsbD_append, BitVec.getLsbD_append]
  by_cases h8 : i < 8
  · rw [if_pos h8, if_pos h8, BitVec.getLsbD_and, BitVec.getLsbD_ushiftRight]
    by_cases hk : k + i < 8
    · rw [if_pos hk]
    · have : m.getLsbD i = false := by
        rw [← BitVec.testBit_toNat]
        exact Nat.testBit_lt_two_pow (Nat.lt_of_lt_of_le hm (Nat.pow_le_pow_right (by decide) (by omega)))
      rw [this, Bool.and_false, Bool.and_false]
  · rw [if_neg h8, if_neg h8]
    simp
theorem ju_bv (x : Int32) (y : Int32) (k : Nat) (hk : (y.toUInt32 &&& Int32.toUInt32 31).toBitVec % 32 = BitVec.ofNat 32 k) (hk2 : k < 32) : (ju x y).toBitVec = x.toBitVec >>> k := by
  unfold ju
  show (x.toUInt32 >>> (y.toUInt32 &&& Int32.toUInt32 31)).toBitVec = _
  rw [UInt32.toBitVec_shiftRight, hk]
  show x.toBitVec >>> (BitVec.ofNat 32 k) = _
  rw [BitVec.ushiftRight_eq', BitVec.toNat_ofNat, Nat.mod_eq_of_lt (Nat.lt_trans hk2 (by decide))]
theorem ju_lo (a : BitVec 24) (b m : BitVec 8) (y : Int32) (k : Nat) {c : Int32} (hk : (y.toUInt32 &&& Int32.toUInt32 31).toBitVec % 32 = BitVec.ofNat 32 k) (hk2 : k < 32) (hc : c = mk 0#24 m) (hm : m.toNat < 2 ^ (8 - k)) : ju (mk a b) y &&& c = mk 0#24 ((b >>> k) &&& m) := by
  rw [hc]
  apply Int32.toBitVec_inj.mp
  rw [Int32.toBitVec_and, ju_bv _ y k hk hk2]
  exact shr_lo a b m k hm
/-- a signed shift under a mask is an unsigned one -/
theorem ssh_and (x m : BitVec 32) (k : Nat) (hm : m.toNat < 2 ^ (32 - k)) : x.sshiftRight k &&& m = (x >>> k) &&& m := by
  apply BitVec.eq_of_getLsbD_eq
  intro i hi
  rw [BitVec.getLsbD_and, BitVec.getLsbD_and, BitVec.getLsbD_sshiftRight, BitVec.getLsbD_ushiftRight]
  by_cases h : k + i < 32
  · have h5 : ¬ 32 ≤ i := by omega
    simp [h, hi, h5]
  · have : m.getLsbD i = false := by
      rw [← BitVec.testBit_toNat]
      exact Nat.testBit_lt_two_pow (Nat.lt_of_lt_of_le hm (Nat.pow_le_pow_right (by decide) (by omega)))
    rw [this, Bool.and_false, Bool.and_false]
theorem sr_bv (x y : Int32) (k : Nat) (hk : (y.toBitVec.smod 32).toNat = k) : (x >>> y).toBitVec = x.toBitVec.sshiftRight k := by
  rw [Int32.toBitVec_shiftRight, BitVec.sshiftRight_eq', hk]
/-- the class's shift and the reference's, under one mask -/
theorem ju_sr (x y y' m : Int32) (k : Nat) (hk : (y.toUInt32 &&& Int32.toUInt32 31).toBitVec % 32 = BitVec.ofNat 32 k) (hk2 : k < 32) (hk' : (y'.toBitVec.smod 32).toNat = k) (hm : m.toBitVec.toNat < 2 ^ (32 - k)) : ju x y &&& m = (x >>> y') &&& m := by
  apply Int32.toBitVec_inj.mp
  rw [Int32.toBitVec_and, Int32.toBitVec_and, ju_bv x y k hk hk2, sr_bv x y' k hk', ssh_and _ _ k hm]
theorem part0 (a : BitVec 24) (b : BitVec 8) : f_MO_part (mk a b) 0 = mk 0#24 (b &&& 15#8) := by
  unfold f_MO_part
  rw [if_pos rfl]
  exact mk_and0 a b 15#8 (by decide)
theorem part1 (a : BitVec 24) (b : BitVec 8) : f_MO_part (mk a b) 1 = mk 0#24 ((b >>> 4) &&& 15#8) := by
  unfold f_MO_part
  rw [if_neg (by decide), ← ju_sr (mk a b) 4 (4 &&& 31) 15 4 (by decide) (by decide) (by decide) (by decide)]
  exact ju_lo a b 15#8 4 4 (by decide) (by decide) (by decide) (by decide)
theorem with0 (a : BitVec 24) (b p : BitVec 8) : f_MO_with (mk a b) 0 (mk 0#24 p) = mk a ((b &&& 240#8) ||| p) := by
  unfold f_MO_with
  rw [if_pos rfl, mk_andF a b 240#8 (by decide)]
  exact mk_or0 a _ p rfl
theorem sl4 : ∀ p : BitVec 8, p &&& 15#8 = p → (mk 0#24 p <<< ((4 : Int32) &&& 31)) = mk 0#24 (p <<< 4) := by decide +kernel
theorem with1 (a : BitVec 24) (b p : BitVec 8) (hp : p &&& 15#8 = p) : f_MO_with (mk a b) 1 (mk 0#24 p) = mk a ((b &&& 15#8) ||| (p <<< 4)) := by
  unfold f_MO_with
  rw [if_neg (by decide), mk_andF a b 15#8 (by decide), sl4 p hp]
  exact mk_or0 a _ _ rfl
/-! what the two sides read out of a state -/
def aP (P : Int32) : Int32 := P - P / 2 * 2
def tP (P : Int32) : Int32 := P / 2 - P / 2 / 2 * 2
theorem d_a : ∀ p : BitVec 8, aP (mk 0#24 (p &&& 15#8)) = mk 0#24 (p &&& 1#8) := by unfold aP; decide +kernel
theorem d_t : ∀ p : BitVec 8, tP (mk 0#24 (p &&& 15#8)) = mk 0#24 ((p >>> 1) &&& 1#8) := by unfold tP; decide +kernel
theorem d_4 : ∀ p : BitVec 8, mk 0#24 (p &&& 15#8) / (4 : Int32) = mk 0#24 ((p >>> 2) &&& 3#8) := by decide +kernel
def shf (sg : Int32) (b : BitVec 8) : BitVec 8 := if sg = 0 then b else b >>> 4
def wth (sg : Int32) (b p : BitVec 8) : BitVec 8 := if sg = 0 then (b &&& 240#8) ||| p else (b &&& 15#8) ||| (p <<< 4)
theorem part_mk {sg : Int32} (h : sg = 0 ∨ sg = 1) (a : BitVec 24) (b : BitVec 8) : f_MO_part (mk a b) sg = mk 0#24 (shf sg b &&& 15#8) := by
  rcases h with rfl | rfl
  · exact part0 a b
  · exact part1 a b
theorem with_mk {sg : Int32} (h : sg = 0 ∨ sg = 1) (a : BitVec 24) (b p : BitVec 8) (hp : p &&& 15#8 = p) : f_MO_with (mk a b) sg (mk 0#24 p) = mk a (wth sg b p) := by
  rcases h with rfl | rfl
  · exact with0 a b p
  · exact with1 a b p hp
theorem wo_mk {sg : Int32} (h : sg = 0 ∨ sg = 1) (a : BitVec 24) (b : BitVec 8) : f_SB_withoutTrial (mk a b) sg = mk a (wth sg b (shf sg b &&& 1#8)) := by
  unfold f_SB_withoutTrial
  rcases h with rfl | rfl
  · rw [mk_andF a b 241#8 (by decide)]
    have : ∀ b : BitVec 8, b &&& 241#8 = wth 0 b (shf 0 b &&& 1#8) := by unfold wth shf; decide +kernel
    rw [this b]
  · rw [mk_andF a b 31#8 (by decide)]
    have : ∀ b : BitVec 8, b &&& 31#8 = wth 1 b (shf 1 b &&& 1#8) := by unfold wth shf; decide +kernel
    rw [this b]
theorem oa_mk {sg : Int32} (h : sg = 0 ∨ sg = 1) (a : BitVec 24) (b : BitVec 8) : f_SB_withOtherActive (mk a b) sg = mk a (wth sg b (shf sg b &&& 1#8 ^^^ 1#8)) := by
  unfold f_SB_withOtherActive
  rw [wo_mk h]
  rcases h with rfl | rfl
  · rw [mk_xor0 a _ 1#8 (by decide)]
    have : ∀ b : BitVec 8, wth 0 b (shf 0 b &&& 1#8) ^^^ 1#8 = wth 0 b (shf 0 b &&& 1#8 ^^^ 1#8) := by unfold wth shf; decide +kernel
    rw [this b]
  · rw [mk_xor0 a _ 16#8 (by decide)]
    have : ∀ b : BitVec 8, wth 1 b (shf 1 b &&& 1#8) ^^^ 16#8 = wth 1 b (shf 1 b &&& 1#8 ^^^ 1#8) := by unfold wth shf; decide +kernel
    rw [this b]
theorem d_tr : ∀ t : BitVec 8, t &&& 3#8 = t → ((2 : Int32) ||| (mk 0#24 t <<< ((2 : Int32) &&& 31))) <<< ((4 * 0 : Int32) &&& 31) = mk 0#24 (2#8 ||| t <<< 2) ∧ ((2 : Int32) ||| (mk 0#24 t <<< ((2 : Int32) &&& 31))) <<< ((4 * 1 : Int32) &&& 31) = mk 0#24 ((2#8 ||| t <<< 2) <<< 4) := by decide +kernel
theorem wt_mk {sg : Int32} (h : sg = 0 ∨ sg = 1) (a : BitVec 24) (b t : BitVec 8) (ht : t &&& 3#8 = t) : f_SB_withTrial (mk a b) sg (mk 0#24 t) = mk a (wth sg b ((shf sg b &&& 1#8) ||| 2#8 ||| t <<< 2)) := by
  unfold f_SB_withTrial
  rw [wo_mk h]
  have e1 : ∀ u v w : BitVec 8, u ||| v ||| w = u ||| (v ||| w) := fun u v w => BitVec.or_assoc u v w
  rcases h with rfl | rfl
  · rw [(d_tr t ht).1, mk_or0 a _ _ rfl]
    unfold wth
    rw [if_pos rfl, if_pos rfl, BitVec.or_assoc, BitVec.or_assoc]
  · rw [(d_tr t ht).2, mk_or0 a _ _ rfl]
    unfold wth
    rw [if_neg (by decide), if_neg (by decide), BitVec.or_assoc, ← BitVec.shiftLeft_or_distrib, BitVec.or_assoc]
theorem as_mk {sg : Int32} (h : sg = 0 ∨ sg = 1) (a : BitVec 24) (b : BitVec 8) : f_SB_activeSlot (mk a b) sg = 2 * sg + mk 0#24 (shf sg b &&& 1#8) := by
  unfold f_SB_activeSlot
  rcases h with rfl | rfl
  · rw [ju_lo a b 1#8 (4 * 0) 0 (by decide) (by decide) (by decide) (by decide)]; rfl
  · rw [ju_lo a b 1#8 (4 * 1) 4 (by decide) (by decide) (by decide) (by decide)]; rfl
theorem os_mk {sg : Int32} (h : sg = 0 ∨ sg = 1) (a : BitVec 24) (b : BitVec 8) : f_SB_otherSlot (mk a b) sg = 2 * sg + mk 0#24 (shf sg b &&& 1#8 ^^^ 1#8) := by
  unfold f_SB_otherSlot
  rw [as_mk h]
  generalize shf sg b = c
  have h2 : ∀ c : BitVec 8, (2 * 0 + mk 0#24 (c &&& 1#8)) ^^^ (1 : Int32) = (2 * 0 + mk 0#24 (c &&& 1#8 ^^^ 1#8)) ∧ (2 * 1 + mk 0#24 (c &&& 1#8)) ^^^ (1 : Int32) = (2 * 1 + mk 0#24 (c &&& 1#8 ^^^ 1#8)) := by decide +kernel
  rcases h with rfl | rfl
  · exact (h2 c).1
  · exact (h2 c).2
theorem ot_mk {sg : Int32} (h : sg = 0 ∨ sg = 1) (a : BitVec 24) (b : BitVec 8) : (f_SB_onTrial (mk a b) sg = 0) ↔ (shf sg b >>> 1) &&& 1#8 = 0#8 := by
  unfold f_SB_onTrial
  have e : ju (mk a b) (4 * sg) &&& 2 = mk 0#24 (shf sg b &&& 2#8) := by
    rcases h with rfl | rfl
    · rw [ju_lo a b 2#8 (4 * 0) 0 (by decide) (by decide) (by decide) (by decide)]; rfl
    · rw [ju_lo a b 2#8 (4 * 1) 4 (by decide) (by decide) (by decide) (by decide)]; rfl
  rw [e]
  generalize shf sg b = c
  revert c
  decide +kernel
theorem tl_mk {sg : Int32} (h : sg = 0 ∨ sg = 1) (a : BitVec 24) (b : BitVec 8) : f_SB_triesLeft (mk a b) sg = mk 0#24 ((shf sg b >>> 2) &&& 3#8) := by
  unfold f_SB_triesLeft
  rcases h with rfl | rfl
  · exact ju_lo a b 3#8 (4 * 0 + 2) 2 (by decide) (by decide) (by decide) (by decide)
  · rw [ju_lo a b 3#8 (4 * 1 + 2) 6 (by decide) (by decide) (by decide) (by decide)]
    have : ∀ b : BitVec 8, (b >>> 6) &&& 3#8 = ((shf 1 b >>> 2) &&& 3#8) := by unfold shf; decide +kernel
    rw [this b]

