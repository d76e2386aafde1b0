/-! The constants of the reference; flash and records, class against reference. -/
theorem mo_k6_ok : kcOk mo_k_6 := by
  unfold kcOk
  decide +kernel
theorem mo_k7_ok : bgOk mo_k_7 := by
  unfold bgOk
  decide +kernel
theorem one0 : ¬ (1 : Int32) = 0 := by decide
/-- what the reference keeps of a write of the class: writes left, lost, words -/
def wrt (u : Int32 × Int32 × (Nat → Int32)) : Int32 × Int32 × (Nat → Int32) := (u.2.1, (if u.1 = 0 then 1 else 0), u.2.2)
def lef (x : Int32) : Prop := -1 ≤ x ∧ x ≤ 1000
theorem lef_pos {x : Int32} (h : lef x) (h1 : ¬ x = -1) (h2 : ¬ x = 0) : ¬ x ≤ 0 := by
  intro h3
  have a := Int32.le_iff_toInt_le.mp h.1
  have c := Int32.le_iff_toInt_le.mp h3
  have e1 : (-1 : Int32).toInt = -1 := by decide
  have e0 : (0 : Int32).toInt = 0 := by decide
  rw [e1] at a
  rw [e0] at c
  have d : x.toInt = -1 ∨ x.toInt = 0 := by omega
  rcases d with d | d
  · exact h1 (Int32.toInt_inj.mp (d.trans e1.symm))
  · exact h2 (Int32.toInt_inj.mp (d.trans e0.symm))
theorem lef_dec {x : Int32} (h : lef x) (h3 : ¬ x ≤ 0) : lef (x - 1) := by
  have a : ¬ x < 0 := fun z => h3 (Int32.le_of_lt z)
  obtain ⟨j, hj, rfl⟩ := nI_of a
  have c := h.2
  rw [show (1000 : Int32) = nI 1000 from rfl, nI_leI hj (by decide)] at c
  have d : j ≠ 0 := fun z => h3 (by subst z; decide)
  rw [show (1 : Int32) = nI 1 from rfl, pk_sub (by omega)]
  refine ⟨Int32.le_iff_toInt_le.mpr ?_, by rw [show (1000 : Int32) = nI 1000 from rfl, nI_leI (by omega) (by decide)]; omega⟩
  rw [nI_toInt (by omega), show (-1 : Int32).toInt = -1 by decide]
  omega
theorem wr_rel {at0 pl wd va th wl da si : Int32} {w : Nat → Int32} (ha : at0 = f_FL_indexOf pl wd) (hl : lef wl) : f_MO_write at0 va th wl 0 da si w = wrt (f_FL_write pl wd va wl w) := by
  subst ha
  unfold f_MO_write f_FL_write f_MO_write_j12 wrt
  by_cases h0 : wl = 0
  · rw [if_pos h0, if_pos h0, if_neg (by decide), if_pos rfl]
  · rw [if_neg h0, if_neg h0, if_pos rfl]
    by_cases h1 : wl = -1
    · rw [if_pos h1, if_pos (by rw [h1]; decide)]
      rfl
    · rw [if_neg h1, if_neg (lef_pos hl h1 h0)]
      rfl
theorem wr_lost {at0 va th da si : Int32} {w : Nat → Int32} : f_MO_write at0 va th 0 1 da si w = (0, 1, w) := by
  unfold f_MO_write f_MO_write_j12
  rw [if_pos rfl, if_neg (by decide)]
/-- what a write leaves: 0 or 1; if 0 then nothing is left; the rest stays in its bounds -/
def wok (u : Int32 × Int32 × (Nat → Int32)) : Prop := (u.1 = 0 ∨ u.1 = 1) ∧ (u.1 = 0 → u.2.1 = 0) ∧ lef u.2.1
theorem wr_ok {pl wd va wl : Int32} {w : Nat → Int32} (hl : lef wl) : wok (f_FL_write pl wd va wl w) := by
  unfold f_FL_write
  by_cases h0 : wl = 0
  · rw [if_pos h0]; exact ⟨Or.inl rfl, fun _ => h0, hl⟩
  · rw [if_neg h0]
    by_cases h1 : wl = -1
    · rw [if_pos h1]; exact ⟨Or.inr rfl, fun z => absurd z one0, hl⟩
    · rw [if_neg h1]; exact ⟨Or.inr rfl, fun z => absurd z one0, lef_dec hl (lef_pos hl h1 h0)⟩
theorem wrt_0 {u : Int32 × Int32 × (Nat → Int32)} (h : u.1 = 0) (hk : wok u) : wrt u = (0, 1, u.2.2) := by
  unfold wrt; rw [if_pos h, hk.2.1 h]
theorem wrt_1 {u : Int32 × Int32 × (Nat → Int32)} (h : ¬ u.1 = 0) : wrt u = (u.2.1, 0, u.2.2) := by
  unfold wrt; rw [if_neg h]
/-! records -/
theorem ix42 : f_FL_indexOf 4 2 = 66 := by decide
theorem ix41 : f_FL_indexOf 4 1 = 65 := by decide
theorem ix40 : f_FL_indexOf 4 0 = 64 := by decide
theorem ix52 : f_FL_indexOf 5 2 = 69 := by decide
theorem ix51 : f_FL_indexOf 5 1 = 68 := by decide
theorem ix50 : f_FL_indexOf 5 0 = 67 := by decide
theorem val4 (th le lo da si wl : Int32) (w : Nat → Int32) : f_FL_isValid 4 wl w = f_MO_valid 0 th le lo da si w := by
  unfold f_FL_isValid f_MO_valid f_FL_read f_FL_sumOf
  rw [ix42, ix41, ix40]
  rfl
theorem val5 (th le lo da si wl : Int32) (w : Nat → Int32) : f_FL_isValid 5 wl w = f_MO_valid 1 th le lo da si w := by
  unfold f_FL_isValid f_MO_valid f_FL_read f_FL_sumOf
  rw [ix52, ix51, ix50]
  rfl
theorem held_eq (th le lo da si wl : Int32) (w : Nat → Int32) : f_FL_heldRecord wl w = f_MO_holds th le lo da si w := by
  unfold f_FL_heldRecord f_MO_holds
  rw [val4 th le lo da si wl w, val5 th le lo da si wl w]
  by_cases h0 : f_MO_valid 0 th le lo da si w = 0
  · simp only [if_pos h0]
  · simp only [if_neg h0]
    by_cases h1 : f_MO_valid 1 th le lo da si w = 0
    · simp only [if_pos h1]
    · simp only [if_neg h1]
      unfold f_FL_serialOf f_FL_read
      rw [ix50, ix40]
theorem holds_3 (th le lo da si : Int32) (w : Nat → Int32) : f_MO_holds th le lo da si w = -1 ∨ f_MO_holds th le lo da si w = 0 ∨ f_MO_holds th le lo da si w = 1 := by
  unfold f_MO_holds
  repeat' split
  all_goals first | exact Or.inl rfl | exact Or.inr (Or.inl rfl) | exact Or.inr (Or.inr rfl)
theorem hst_eq (th le lo da si wl : Int32) (w : Nat → Int32) : f_FL_heldState wl w = f_MO_stateNow th le lo da si w := by
  unfold f_FL_heldState f_MO_stateNow f_FL_read
  rw [held_eq th le lo da si wl w]
  rcases holds_3 th le lo da si w with e | e | e <;> rw [e]
  · rfl
  · rfl
  · rfl
/-- the reference's state does not ask for more than the words -/
theorem now_eq (th le lo da si th' le' lo' da' si' : Int32) (w : Nat → Int32) : f_MO_stateNow th le lo da si w = f_MO_stateNow th' le' lo' da' si' w := rfl
theorem rec34 {st x3 t0 at0 th wl da si : Int32} {w : Nat → Int32} (h2 : at0 + 2 = f_FL_indexOf t0 2) (h1 : at0 + 1 = f_FL_indexOf t0 1) (h0 : at0 = f_FL_indexOf t0 0) (hl : lef wl) (a1 a2 a4 : Int32) (g1 g2 : Nat → Int32) : f_MO_writeState_j38 st th a1 a2 da si g1 x3 at0 wl 0 w = wrt (f_FL_writeRecord_j34 st a4 g2 x3 t0 wl w) ∧ wok (f_FL_writeRecord_j34 st a4 g2 x3 t0 wl w) := by
  unfold f_MO_writeState_j38 f_FL_writeRecord_j34
  have k1 := wr_ok (pl := t0) (wd := 2) (va := 0) (w := w) hl
  rw [wr_rel (va := 0) (th := th) (da := da) (si := si) (w := w) h2 hl]
  generalize f_FL_write t0 2 0 wl w = u1 at k1 ⊢
  unfold f_MO_writeState_c1 f_FL_writeRecord_c1
  by_cases q1 : u1.1 = 0
  · rw [if_pos q1, wrt_0 q1 k1]
    unfold f_MO_writeState_c2
    simp only [wr_lost]
    unfold f_MO_writeState_c3
    simp only [wr_lost]
    unfold f_MO_writeState_c4
    exact ⟨by unfold wrt; rw [if_pos rfl, k1.2.1 q1], Or.inl rfl, fun _ => k1.2.1 q1, k1.2.2⟩
  rw [if_neg q1, wrt_1 q1]
  dsimp only
  have k2 := wr_ok (pl := t0) (wd := 0) (va := x3) (w := u1.2.2) k1.2.2
  rw [wr_rel (va := x3) (th := th) (da := da) (si := si) (w := u1.2.2) h0 k1.2.2]
  generalize f_FL_write t0 0 x3 u1.2.1 u1.2.2 = u2 at k2 ⊢
  unfold f_MO_writeState_c2 f_FL_writeRecord_c2
  by_cases q2 : u2.1 = 0
  · rw [if_pos q2, wrt_0 q2 k2]
    simp only [wr_lost]
    unfold f_MO_writeState_c3
    simp only [wr_lost]
    unfold f_MO_writeState_c4
    exact ⟨by unfold wrt; rw [if_pos rfl, k2.2.1 q2], Or.inl rfl, fun _ => k2.2.1 q2, k2.2.2⟩
  rw [if_neg q2, wrt_1 q2]
  dsimp only
  have k3 := wr_ok (pl := t0) (wd := 1) (va := st) (w := u2.2.2) k2.2.2
  rw [wr_rel (va := st) (th := th) (da := da) (si := si) (w := u2.2.2) h1 k2.2.2]
  generalize f_FL_write t0 1 st u2.2.1 u2.2.2 = u3 at k3 ⊢
  unfold f_MO_writeState_c3 f_FL_writeRecord_c3
  by_cases q3 : u3.1 = 0
  · rw [if_pos q3, wrt_0 q3 k3]
    simp only [wr_lost]
    unfold f_MO_writeState_c4
    exact ⟨by unfold wrt; rw [if_pos rfl, k3.2.1 q3], Or.inl rfl, fun _ => k3.2.1 q3, k3.2.2⟩
  rw [if_neg q3, wrt_1 q3]
  dsimp only
  unfold f_FL_sumOf
  have k4 := wr_ok (pl := t0) (wd := 2) (va := 31 * x3 + st + 12345) (w := u3.2.2) k3.2.2
  rw [wr_rel (va := 31 * x3 + st + 12345) (th := th) (da := da) (si := si) (w := u3.2.2) h2 k3.2.2]
  generalize f_FL_write t0 2 (31 * x3 + st + 12345) u3.2.1 u3.2.2 = u4 at k4 ⊢
  unfold f_MO_writeState_c4 f_FL_writeRecord_c4
  by_cases q4 : u4.1 = 0
  · rw [if_pos q4, wrt_0 q4 k4]
    exact ⟨by unfold wrt; rw [if_pos rfl, k4.2.1 q4], Or.inl rfl, fun _ => k4.2.1 q4, k4.2.2⟩
  · rw [if_neg q4, wrt_1 q4]
    exact ⟨rfl, Or.inr rfl, fun z => absurd z one0, k4.2.2⟩
theorem rec_rel {st th wl da si : Int32} {w : Nat → Int32} (hl : lef wl) : f_MO_writeState st th wl 0 da si w = wrt (f_FL_writeRecord st wl w) ∧ wok (f_FL_writeRecord st wl w) := by
  unfold f_MO_writeState f_FL_writeRecord f_FL_read
  rw [held_eq th wl 0 da si wl w]
  unfold f_MO_writeState_j26 f_FL_writeRecord_j24
  rcases holds_3 th wl 0 da si w with e | e | e <;> rw [e]
  · rw [if_neg (by decide), if_neg (by decide), if_pos rfl, if_neg (by decide)]
    exact rec34 (by decide) (by decide) (by decide) hl _ _ _ _ _
  · rw [if_pos (by decide), if_pos rfl, if_neg (by decide), if_pos rfl]
    exact rec34 (by decide) (by decide) (by decide) hl _ _ _ _ _
  · rw [if_pos (by decide), if_neg (by decide), if_neg (by decide), if_neg (by decide)]
    exact rec34 (by decide) (by decide) (by decide) hl _ _ _ _ _
theorem rec_lost {st th da si : Int32} {w : Nat → Int32} : f_MO_writeState st th 0 1 da si w = (0, 1, w) := by
  unfold f_MO_writeState f_MO_writeState_j26 f_MO_writeState_j38 f_MO_writeState_c1 f_MO_writeState_c2 f_MO_writeState_c3 f_MO_writeState_c4
  simp only [wr_lost, ite_self]

