/-! Own rows: 32 bits in a long, as the reference keeps its words. -/
def ex (w : Int32) : Int64 := w.toInt64 &&& 4294967295
theorem ex_mb : ∀ i : Nat, i < 64 → (4294967295#64).getLsbD i = decide (i < 32) := by decide +kernel
theorem ex_bv (w : Int32) : (ex w).toBitVec = w.toBitVec.setWidth 64 := by
  have h : (ex w).toBitVec = w.toBitVec.signExtend 64 &&& 4294967295#64 := rfl
  rw [h]
  apply BitVec.eq_of_getLsbD_eq
  intro i hi
  rw [BitVec.getLsbD_and, ex_mb i hi, BitVec.getLsbD_signExtend, BitVec.getLsbD_setWidth]
  by_cases h2 : i < 32
  · simp [h2, hi]
  · simp [h2, BitVec.getLsbD_of_ge w.toBitVec i (by omega)]
theorem i32_bv (v : Int64) : v.toInt32.toBitVec = v.toBitVec.setWidth 32 := by
  have h : v.toInt32.toBitVec = v.toBitVec.signExtend 32 := rfl
  rw [h, BitVec.signExtend_eq_setWidth_of_le _ (by decide)]
theorem ex_mask (v : Int64) : v &&& 4294967295 = ex v.toInt32 := by
  apply Int64.toBitVec_inj.mp
  rw [ex_bv, i32_bv]
  have h : (v &&& 4294967295).toBitVec = v.toBitVec &&& 4294967295#64 := rfl
  rw [h]
  apply BitVec.eq_of_getLsbD_eq
  intro i hi
  rw [BitVec.getLsbD_and, ex_mb i hi, BitVec.getLsbD_setWidth, BitVec.getLsbD_setWidth]
  by_cases h2 : i < 32
  · simp [h2, hi]
  · simp [h2]
theorem ex_inv (w : Int32) : (ex w).toInt32 = w := by
  apply Int32.toBitVec_inj.mp
  rw [i32_bv, ex_bv]
  simp
theorem ex_inj {a b : Int32} (h : ex a = ex b) : a = b := by rw [← ex_inv a, h, ex_inv]
theorem ex_jsr (x k : Int32) (n : Nat) (h : ((k.toInt64 &&& 63).toBitVec.smod 64).toNat = n) (h2 : ((k.toUInt32 &&& Int32.toUInt32 31).toBitVec % 32).toNat = n) : (jsr (ex x) k).toInt32 = ju x k := by
  apply Int32.toBitVec_inj.mp
  rw [i32_bv]
  have e1 : (jsr (ex x) k).toBitVec = (ex x).toBitVec.sshiftRight ((k.toInt64 &&& 63).toBitVec.smod 64).toNat := rfl
  have e2 : (ju x k).toBitVec = x.toBitVec >>> ((k.toUInt32 &&& Int32.toUInt32 31).toBitVec % 32).toNat := rfl
  rw [e1, e2, h, h2, ex_bv]
  have hm : (x.toBitVec.setWidth 64).msb = false := by
    rw [BitVec.msb_eq_getLsbD_last, BitVec.getLsbD_setWidth]
    simp [BitVec.getLsbD_of_ge x.toBitVec 63 (by decide)]
  rw [BitVec.sshiftRight_eq_of_msb_false hm]
  apply BitVec.eq_of_getLsbD_eq
  intro i hi
  rw [BitVec.getLsbD_setWidth, BitVec.getLsbD_ushiftRight, BitVec.getLsbD_ushiftRight, BitVec.getLsbD_setWidth]
  by_cases h3 : n + i < 64
  · simp [h3, hi]
  · simp [h3, BitVec.getLsbD_of_ge x.toBitVec (n + i) (by omega)]
theorem ex_jsl (x k : Int32) (n : Nat) (h : ((k.toInt64 &&& 63).toBitVec.smod 64).toNat = n) (h2 : ((k &&& 31).toBitVec.smod 32).toNat = n) : (jsl (ex x) k).toInt32 = x <<< (k &&& 31) := by
  apply Int32.toBitVec_inj.mp
  rw [i32_bv]
  have e1 : (jsl (ex x) k).toBitVec = (ex x).toBitVec <<< ((k.toInt64 &&& 63).toBitVec.smod 64).toNat := rfl
  have e2 : (x <<< (k &&& 31)).toBitVec = x.toBitVec <<< ((k &&& 31).toBitVec.smod 32).toNat := rfl
  rw [e1, e2, h, h2, ex_bv]
  apply BitVec.eq_of_getLsbD_eq
  intro i hi
  rw [BitVec.getLsbD_setWidth, BitVec.getLsbD_shiftLeft, BitVec.getLsbD_shiftLeft, BitVec.getLsbD_setWidth]
  have h3 : i < 64 := by omega
  have h4 : i - n < 64 := by omega
  simp [hi, h3, h4]
/-- the numbers of a turn fit -/
def ex_ok (k : Int32) (n : Nat) : Prop := ((k.toInt64 &&& 63).toBitVec.smod 64).toNat = n ∧ ((k.toUInt32 &&& Int32.toUInt32 31).toBitVec % 32).toNat = n ∧ (((32 - k).toInt64 &&& 63).toBitVec.smod 64).toNat = 32 - n ∧ (((32 - k) &&& 31).toBitVec.smod 32).toNat = 32 - n
theorem ex_turn (x k : Int32) (n : Nat) (h : ex_ok k n) : f_MO_turned (ex x) k = ex (f_SH_turn x k) := by
  unfold f_MO_turned f_SH_turn
  rw [ex_mask, Int64.toInt32_or, ex_jsr x k n h.1 h.2.1, ex_jsl x (32 - k) (32 - n) h.2.2.1 h.2.2.2]
theorem ex_ok2 : ex_ok 2 2 := by unfold ex_ok; decide +kernel
theorem ex_ok6 : ex_ok 6 6 := by unfold ex_ok; decide +kernel
theorem ex_ok7 : ex_ok 7 7 := by unfold ex_ok; decide +kernel
theorem ex_ok11 : ex_ok 11 11 := by unfold ex_ok; decide +kernel
theorem ex_ok13 : ex_ok 13 13 := by unfold ex_ok; decide +kernel
theorem ex_ok17 : ex_ok 17 17 := by unfold ex_ok; decide +kernel
theorem ex_ok18 : ex_ok 18 18 := by unfold ex_ok; decide +kernel
theorem ex_ok19 : ex_ok 19 19 := by unfold ex_ok; decide +kernel
theorem ex_ok22 : ex_ok 22 22 := by unfold ex_ok; decide +kernel
theorem ex_ok25 : ex_ok 25 25 := by unfold ex_ok; decide +kernel
theorem ex_sr3 (x : Int32) : (jsr (ex x) 3).toInt32 = ju x 3 := ex_jsr x 3 3 (by decide +kernel) (by decide +kernel)
theorem ex_sr10 (x : Int32) : (jsr (ex x) 10).toInt32 = ju x 10 := ex_jsr x 10 10 (by decide +kernel) (by decide +kernel)
theorem ch_eq (e f g : Int32) : g ^^^ (e &&& (f ^^^ g)) = (e &&& f) ^^^ ((e ^^^ (-1)) &&& g) := by
  apply Int32.toBitVec_inj.mp
  have e1 : (g ^^^ (e &&& (f ^^^ g))).toBitVec = g.toBitVec ^^^ (e.toBitVec &&& (f.toBitVec ^^^ g.toBitVec)) := rfl
  have e2 : ((e &&& f) ^^^ ((e ^^^ (-1)) &&& g)).toBitVec = (e.toBitVec &&& f.toBitVec) ^^^ ((e.toBitVec ^^^ BitVec.allOnes 32) &&& g.toBitVec) := rfl
  rw [e1, e2]
  apply BitVec.eq_of_getLsbD_eq
  intro i hi
  simp only [BitVec.getLsbD_xor, BitVec.getLsbD_and, BitVec.getLsbD_allOnes, hi, decide_true]
  cases e.toBitVec.getLsbD i <;> cases f.toBitVec.getLsbD i <;> cases g.toBitVec.getLsbD i <;> rfl
theorem mj_eq (a b c : Int32) : ((a &&& b) ||| (c &&& (a ||| b))) = ((a &&& b) ^^^ (a &&& c)) ^^^ (b &&& c) := by
  apply Int32.toBitVec_inj.mp
  have e1 : ((a &&& b) ||| (c &&& (a ||| b))).toBitVec = (a.toBitVec &&& b.toBitVec) ||| (c.toBitVec &&& (a.toBitVec ||| b.toBitVec)) := rfl
  have e2 : (((a &&& b) ^^^ (a &&& c)) ^^^ (b &&& c)).toBitVec = ((a.toBitVec &&& b.toBitVec) ^^^ (a.toBitVec &&& c.toBitVec)) ^^^ (b.toBitVec &&& c.toBitVec) := rfl
  rw [e1, e2]
  apply BitVec.eq_of_getLsbD_eq
  intro i hi
  simp only [BitVec.getLsbD_xor, BitVec.getLsbD_and, BitVec.getLsbD_or]
  cases a.toBitVec.getLsbD i <;> cases b.toBitVec.getLsbD i <;> cases c.toBitVec.getLsbD i <;> rfl

