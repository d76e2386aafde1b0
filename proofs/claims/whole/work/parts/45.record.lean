/-! What holds after a record was written whole. -/
theorem wr_in {pl wd va wl : Int32} {w : Nat → Int32} (h : ¬ (f_FL_write pl wd va wl w).1 = 0) : (f_FL_write pl wd va wl w).2.2 = upd w (f_FL_indexOf pl wd).toNatClampNeg va := by
  unfold f_FL_write at h ⊢
  by_cases h0 : wl = 0
  · rw [if_pos h0] at h; exact absurd rfl h
  · rw [if_neg h0]
    by_cases h1 : wl = -1
    · rw [if_pos h1]; rfl
    · rw [if_neg h1]; rfl
def recw (w : Nat → Int32) (b : Nat) (se st : Int32) : Nat → Int32 := upd (upd (upd (upd w (b + 2) 0) b se) (b + 1) st) (b + 2) (31 * se + st + 12345)
theorem rec34_in {st x3 t0 a4 wl : Int32} {w g2 : Nat → Int32} {b : Nat} (h0 : (f_FL_indexOf t0 0).toNatClampNeg = b) (h1 : (f_FL_indexOf t0 1).toNatClampNeg = b + 1) (h2 : (f_FL_indexOf t0 2).toNatClampNeg = b + 2) (h : ¬ (f_FL_writeRecord_j34 st a4 g2 x3 t0 wl w).1 = 0) : (f_FL_writeRecord_j34 st a4 g2 x3 t0 wl w).2.2 = recw w b x3 st := by
  unfold f_FL_writeRecord_j34 f_FL_writeRecord_c1 at h ⊢
  have k1 := wr_in (pl := t0) (wd := 2) (va := 0) (wl := wl) (w := w)
  generalize f_FL_write t0 2 0 wl w = u1 at h k1 ⊢
  by_cases q1 : u1.1 = 0
  · rw [if_pos q1] at h; exact absurd rfl h
  rw [if_neg q1] at h ⊢
  unfold f_FL_writeRecord_c2 at h ⊢
  have k2 := wr_in (pl := t0) (wd := 0) (va := x3) (wl := u1.2.1) (w := u1.2.2)
  generalize f_FL_write t0 0 x3 u1.2.1 u1.2.2 = u2 at h k2 ⊢
  by_cases q2 : u2.1 = 0
  · rw [if_pos q2] at h; exact absurd rfl h
  rw [if_neg q2] at h ⊢
  unfold f_FL_writeRecord_c3 at h ⊢
  have k3 := wr_in (pl := t0) (wd := 1) (va := st) (wl := u2.2.1) (w := u2.2.2)
  generalize f_FL_write t0 1 st u2.2.1 u2.2.2 = u3 at h k3 ⊢
  by_cases q3 : u3.1 = 0
  · rw [if_pos q3] at h; exact absurd rfl h
  rw [if_neg q3] at h ⊢
  unfold f_FL_writeRecord_c4 at h ⊢
  have k4 := wr_in (pl := t0) (wd := 2) (va := f_FL_sumOf x3 st) (wl := u3.2.1) (w := u3.2.2)
  generalize f_FL_write t0 2 (f_FL_sumOf x3 st) u3.2.1 u3.2.2 = u4 at h k4 ⊢
  by_cases q4 : u4.1 = 0
  · rw [if_pos q4] at h; exact absurd rfl h
  rw [if_neg q4]
  show u4.2.2 = _
  rw [k4 q4, k3 q3, k2 q2, k1 q1, h0, h1, h2]
  rfl
theorem recw_n (w : Nat → Int32) (b : Nat) (se st : Int32) (j : Nat) (h : j < b ∨ b + 2 < j) : recw w b se st j = w j := by
  unfold recw
  rw [pk_un (by omega), pk_un (by omega), pk_un (by omega), pk_un (by omega)]
theorem recw_0 (w : Nat → Int32) (b : Nat) (se st : Int32) : recw w b se st b = se := by
  unfold recw
  rw [pk_un (by omega), pk_un (by omega), pk_us]
theorem recw_1 (w : Nat → Int32) (b : Nat) (se st : Int32) : recw w b se st (b + 1) = st := by
  unfold recw
  rw [pk_un (by omega), pk_us]
theorem recw_2 (w : Nat → Int32) (b : Nat) (se st : Int32) : recw w b se st (b + 2) = 31 * se + st + 12345 := by
  unfold recw
  rw [pk_us]
def vld (w : Nat → Int32) (b : Nat) : Prop := w (b + 2) = 31 * w b + w (b + 1) + 12345
theorem vld_recw (w : Nat → Int32) (b : Nat) (se st : Int32) : vld (recw w b se st) b := by
  unfold vld
  rw [recw_0, recw_1, recw_2]
theorem vld_recn (w : Nat → Int32) (b c : Nat) (se st : Int32) (h : c + 2 < b ∨ b + 2 < c) : vld (recw w b se st) c ↔ vld w c := by
  unfold vld
  rw [recw_n _ _ _ _ _ (by omega), recw_n _ _ _ _ _ (by omega), recw_n _ _ _ _ _ (by omega)]
theorem val_0 (th le lo da si : Int32) (w : Nat → Int32) : f_MO_valid 0 th le lo da si w = 0 ↔ ¬ vld w 64 := by
  unfold f_MO_valid vld
  by_cases h : w ((66 : Int32) + 3 * 0).toNatClampNeg = 31 * w ((64 : Int32) + 3 * 0).toNatClampNeg + w ((65 : Int32) + 3 * 0).toNatClampNeg + 12345
  · rw [if_pos h]; exact ⟨fun z => absurd z one0, fun z => absurd h z⟩
  · rw [if_neg h]; exact ⟨fun _ => h, fun _ => rfl⟩
theorem val_1 (th le lo da si : Int32) (w : Nat → Int32) : f_MO_valid 1 th le lo da si w = 0 ↔ ¬ vld w 67 := by
  unfold f_MO_valid vld
  by_cases h : w ((66 : Int32) + 3 * 1).toNatClampNeg = 31 * w ((64 : Int32) + 3 * 1).toNatClampNeg + w ((65 : Int32) + 3 * 1).toNatClampNeg + 12345
  · rw [if_pos h]; exact ⟨fun z => absurd z one0, fun z => absurd h z⟩
  · rw [if_neg h]; exact ⟨fun _ => h, fun _ => rfl⟩
/-- who may hold -/
theorem holds_of (th le lo da si : Int32) (w : Nat → Int32) : (f_MO_holds th le lo da si w = -1 ∧ ¬ vld w 64 ∧ ¬ vld w 67) ∨ (f_MO_holds th le lo da si w = 0 ∧ vld w 64) ∨ (f_MO_holds th le lo da si w = 1 ∧ vld w 67) := by
  unfold f_MO_holds
  by_cases h0 : f_MO_valid 0 th le lo da si w = 0
  · rw [if_pos h0]
    by_cases h1 : f_MO_valid 1 th le lo da si w = 0
    · rw [if_pos h1]; exact Or.inl ⟨rfl, (val_0 _ _ _ _ _ _).mp h0, (val_1 _ _ _ _ _ _).mp h1⟩
    · rw [if_neg h1]; exact Or.inr (Or.inr ⟨rfl, Classical.byContradiction fun z => h1 ((val_1 _ _ _ _ _ _).mpr z)⟩)
  · rw [if_neg h0]
    have v0 : vld w 64 := Classical.byContradiction fun z => h0 ((val_0 _ _ _ _ _ _).mpr z)
    by_cases h1 : f_MO_valid 1 th le lo da si w = 0
    · rw [if_pos h1]; exact Or.inr (Or.inl ⟨rfl, v0⟩)
    · rw [if_neg h1]
      have v1 : vld w 67 := Classical.byContradiction fun z => h1 ((val_1 _ _ _ _ _ _).mpr z)
      split
      · exact Or.inr (Or.inl ⟨rfl, v0⟩)
      · exact Or.inr (Or.inr ⟨rfl, v1⟩)
def now (w : Nat → Int32) : Int32 := f_MO_stateNow 0 0 0 0 0 w
theorem now_of (w : Nat → Int32) : (now w = 0 ∧ ¬ vld w 64 ∧ ¬ vld w 67) ∨ (now w = w 65 ∧ vld w 64) ∨ (now w = w 68 ∧ vld w 67) := by
  unfold now f_MO_stateNow
  rcases holds_of 0 0 0 0 0 w with ⟨e, h⟩ | ⟨e, h⟩ | ⟨e, h⟩ <;> rw [e]
  · exact Or.inl ⟨rfl, h⟩
  · exact Or.inr (Or.inl ⟨rfl, h⟩)
  · exact Or.inr (Or.inr ⟨rfl, h⟩)
theorem now_rec0 (w : Nat → Int32) (se st : Int32) (h : ¬ vld w 67) : now (recw w 64 se st) = st := by
  rcases now_of (recw w 64 se st) with ⟨_, h1, _⟩ | ⟨e, _⟩ | ⟨_, h1⟩
  · exact absurd (vld_recw w 64 se st) h1
  · rw [e]; exact recw_1 w 64 se st
  · exact absurd ((vld_recn w 64 67 se st (by omega)).mp h1) h
theorem now_rec4 (w : Nat → Int32) (se st : Int32) (h : vld w 67) : now (recw w 64 se st) = st ∨ now (recw w 64 se st) = w 68 := by
  rcases now_of (recw w 64 se st) with ⟨_, h1, _⟩ | ⟨e, _⟩ | ⟨e, h1⟩
  · exact absurd (vld_recw w 64 se st) h1
  · rw [e]; exact Or.inl (recw_1 w 64 se st)
  · rw [e]; exact Or.inr (recw_n w 64 se st 68 (by omega))
theorem now_rec5 (w : Nat → Int32) (se st : Int32) (h : vld w 64) : now (recw w 67 se st) = st ∨ now (recw w 67 se st) = w 65 := by
  rcases now_of (recw w 67 se st) with ⟨_, _, h1⟩ | ⟨e, _⟩ | ⟨e, h1⟩
  · exact absurd (vld_recw w 67 se st) h1
  · rw [e]; exact Or.inr (recw_n w 67 se st 65 (by omega))
  · rw [e]; exact Or.inl (recw_1 w 67 se st)
theorem hst_now (wl : Int32) (w : Nat → Int32) : f_FL_heldState wl w = now w := hst_eq 0 0 0 0 0 wl w
theorem rec_now {st wl : Int32} {w : Nat → Int32} (h : ¬ (f_FL_writeRecord st wl w).1 = 0) : now (f_FL_writeRecord st wl w).2.2 = st ∨ now (f_FL_writeRecord st wl w).2.2 = now w := by
  unfold f_FL_writeRecord f_FL_writeRecord_j24 at h ⊢
  rw [held_eq 0 0 0 0 0 wl w] at h ⊢
  rcases holds_of 0 0 0 0 0 w with ⟨e, h1, h2⟩ | ⟨e, h1⟩ | ⟨e, h1⟩ <;> rw [e] at h ⊢
  · rw [if_pos rfl, if_neg (by decide)] at h ⊢
    rw [rec34_in (b := 64) (by decide) (by decide) (by decide) h]
    exact Or.inl (now_rec0 w _ _ h2)
  · rw [if_neg (by decide), if_pos rfl] at h ⊢
    rw [rec34_in (b := 67) (by decide) (by decide) (by decide) h]
    have : now w = w 65 := by unfold now f_MO_stateNow; rw [e]; rfl
    rw [this]
    exact now_rec5 w _ _ h1
  · rw [if_neg (by decide), if_neg (by decide)] at h ⊢
    rw [rec34_in (b := 64) (by decide) (by decide) (by decide) h]
    have : now w = w 68 := by unfold now f_MO_stateNow; rw [e]; rfl
    rw [this]
    exact now_rec4 w _ _ h1
/-- the state does not ask for the slots -/
theorem now_congr {w w' : Nat → Int32} (h : ∀ j, 64 ≤ j → j < 70 → w j = w' j) : now w = now w' := by
  have e4 : w 64 = w' 64 := h 64 (by decide) (by decide)
  have e5 : w 65 = w' 65 := h 65 (by decide) (by decide)
  have e6 : w 66 = w' 66 := h 66 (by decide) (by decide)
  have e7 : w 67 = w' 67 := h 67 (by decide) (by decide)
  have e8 : w 68 = w' 68 := h 68 (by decide) (by decide)
  have e9 : w 69 = w' 69 := h 69 (by decide) (by decide)
  have a0 : f_MO_valid 0 0 0 0 0 0 w = f_MO_valid 0 0 0 0 0 0 w' := by
    show (if w 66 = 31 * w 64 + w 65 + 12345 then (1 : Int32) else 0) = (if w' 66 = 31 * w' 64 + w' 65 + 12345 then 1 else 0)
    rw [e4, e5, e6]
  have a1 : f_MO_valid 1 0 0 0 0 0 w = f_MO_valid 1 0 0 0 0 0 w' := by
    show (if w 69 = 31 * w 67 + w 68 + 12345 then (1 : Int32) else 0) = (if w' 69 = 31 * w' 67 + w' 68 + 12345 then 1 else 0)
    rw [e7, e8, e9]
  have hh : f_MO_holds 0 0 0 0 0 w = f_MO_holds 0 0 0 0 0 w' := by
    unfold f_MO_holds
    rw [a0, a1, show ((67 : Int32)).toNatClampNeg = 67 from rfl, show ((64 : Int32)).toNatClampNeg = 64 from rfl, e4, e7]
  unfold now f_MO_stateNow
  rw [hh]
  rcases holds_3 0 0 0 0 0 w' with e | e | e <;> rw [e]
  · rfl
  · show (if (0 : Int32) ≤ 0 then w 65 else 0) = (if (0 : Int32) ≤ 0 then w' 65 else 0)
    rw [e5]
  · show (if (0 : Int32) ≤ 1 then w 68 else 0) = (if (0 : Int32) ≤ 1 then w' 68 else 0)
    rw [e8]

