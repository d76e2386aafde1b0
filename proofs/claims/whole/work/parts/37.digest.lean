/-! Own rows: what is added behind the words, and the whole hash on both sides. -/
theorem pd37 (k : Nat) (ms sc ch : Nat → Int32) (e : Nat) (he : e = 16 ∨ e = 32) : ∀ (n j : Nat) (y : Nat → Int32), j ≤ e - 1 → e - 1 - j < n → ∃ M : Nat → Int32, f_SH_padMessage_37 (nI k) ms sc ch n (nI e) (nI j) y = (nI e, M) ∧ (∀ i, i < j → M i = y i) ∧ (∀ i, j ≤ i → i < e - 1 → M i = 0) ∧ M (e - 1) = 32 * nI k := by
  intro n
  induction n with
  | zero => intro j y _ h; exact absurd h (Nat.not_lt_zero _)
  | succ n ih =>
    intro j y hj hn
    have he2 : nI e - 1 = nI (e - 1) := by rcases he with rfl | rfl <;> rfl
    by_cases hq : e - 1 ≤ j
    · have hj2 : j = e - 1 := by omega
      refine ⟨upd y (e - 1) (32 * nI k), ?_, fun i hi => pk_un (by omega), fun i a c => absurd c (by omega), pk_us⟩
      rw [f_SH_padMessage_37, he2, if_pos ((nI_leI (by omega) (by omega)).mpr hq), nI_clamp (by omega)]
    · have e0 : f_SH_padMessage_37 (nI k) ms sc ch (n + 1) (nI e) (nI j) y = f_SH_padMessage_37 (nI k) ms sc ch n (nI e) (nI (j + 1)) (upd y j 0) := by
        rw [f_SH_padMessage_37, he2, if_neg (fun z => hq ((nI_leI (by omega) (by omega)).mp z)), nI_1, nI_clamp (by omega)]
      obtain ⟨M, h0, h1, h2, h3⟩ := ih (j + 1) (upd y j 0) (by omega) (by omega)
      refine ⟨M, e0.trans h0, fun i hi => by rw [h1 i (by omega), pk_un (by omega)], fun i a c => ?_, h3⟩
      by_cases h5 : i = j
      · subst h5; rw [h1 i (by omega), pk_us]
      · exact h2 i (by omega) c
theorem pad_is (k : Nat) (hk : k ≤ 24) (ms sc ch : Nat → Int32) (e : Nat) (he : (k ≤ 13 ∧ e = 16) ∨ (13 < k ∧ e = 32)) : ∃ M : Nat → Int32, f_SH_padMessage (nI k) ms sc ch = (nI e, M) ∧ (∀ i, i < k → M i = ms i) ∧ M k = -2147483648 ∧ (∀ i, k < i → i < e - 1 → M i = 0) ∧ M (e - 1) = 32 * nI k := by
  have he2 : e = 16 ∨ e = 32 := by omega
  obtain ⟨M, h0, h1, h2, h3⟩ := pd37 k ms sc ch e he2 34 (k + 1) (upd ms k (-2147483648)) (by omega) (by omega)
  refine ⟨M, ?_, fun i hi => by rw [h1 i (by omega), pk_un (by omega)], by rw [h1 k (by omega), pk_us], fun i a c => h2 i (by omega) c, h3⟩
  unfold f_SH_padMessage
  rw [nI_1, nI_clamp (by omega)]
  rcases he with ⟨h4, rfl⟩ | ⟨h4, rfl⟩
  · rw [if_neg (by rw [show (3 : Int32) = nI 3 from rfl, nI_add, show (16 : Int32) = nI 16 from rfl, nI_ltI (by decide) (by omega)]; omega)]
    exact h0
  · rw [if_pos (by rw [show (3 : Int32) = nI 3 from rfl, nI_add, show (16 : Int32) = nI 16 from rfl, nI_ltI (by decide) (by omega)]; omega)]
    exact h0
theorem fi8 (N : Nat) (fr sl : Int32) (ms sc ch tg : Nat → Int32) : ∀ (n k : Nat) (x3 : Int32) (y1 y2 y3 y4 : Nat → Int32), k ≤ 8 → 8 - k < n → ∃ C : Nat → Int32, f_SH_finish_8 N fr sl ms sc ch tg n x3 (nI k) y1 y2 y3 y4 = f_SH_finish_37 N fr sl ms sc ch tg 33 x3 0 y1 y2 C y4 ∧ (∀ i, i < k → C i = y3 i) ∧ ∀ i, k ≤ i → i < 8 → C i = sha_h i := by
  intro n
  induction n with
  | zero => intro k x3 y1 y2 y3 y4 _ h; exact absurd h (Nat.not_lt_zero _)
  | succ n ih =>
    intro k x3 y1 y2 y3 y4 h8 hn
    by_cases hk : 8 ≤ k
    · refine ⟨y3, ?_, fun _ _ => rfl, fun i a c => absurd c (by omega)⟩
      rw [f_SH_finish_8, if_pos (by rw [le_lit (l := 8) (c := 8) rfl (by decide) (by omega)]; exact hk)]
    · have e : f_SH_finish_8 N fr sl ms sc ch tg (n + 1) x3 (nI k) y1 y2 y3 y4 = f_SH_finish_8 N fr sl ms sc ch tg n x3 (nI (k + 1)) y1 y2 (upd y3 k (sha_h k)) y4 := by
        rw [f_SH_finish_8, if_neg (by rw [le_lit (l := 8) (c := 8) rfl (by decide) (by omega)]; exact hk), nI_1, nI_clamp (by omega)]
      obtain ⟨C, h0, h1, h2⟩ := ih (k + 1) x3 y1 y2 (upd y3 k (sha_h k)) y4 (by omega) (by omega)
      refine ⟨C, e.trans h0, fun i hi => by rw [h1 i (by omega), pk_un (by omega)], fun i a c => ?_⟩
      by_cases h5 : i = k
      · subst h5; rw [h1 i (by omega), pk_us]
      · exact h2 i (by omega) c
/-- eight words laid from f on -/
def cp8 (g : Nat → Int32) (f : Nat) (D : Nat → Int32) : Nat → Int32 := fun j => if f ≤ j ∧ j < f + 8 then D (j - f) else g j
theorem fi62 (N f : Nat) (hf : f + 8 < 2 ^ 31) (sl : Int32) (ms sc ch tg : Nat → Int32) : ∀ (n k : Nat) (y1 y2 y3 y4 : Nat → Int32), k ≤ 8 → 8 - k < n → ∃ G : Nat → Int32, f_SH_finish_62 N (nI f) sl ms sc ch tg n (nI k) y1 y2 y3 y4 = (y1, y2, y3, G) ∧ (∀ j, (j < f + k ∨ f + 8 ≤ j) → G j = y4 j) ∧ ∀ i, k ≤ i → i < 8 → G (f + i) = y3 i := by
  intro n
  induction n with
  | zero => intro k y1 y2 y3 y4 _ h; exact absurd h (Nat.not_lt_zero _)
  | succ n ih =>
    intro k y1 y2 y3 y4 h8 hn
    by_cases hk : 8 ≤ k
    · refine ⟨y4, ?_, fun _ _ => rfl, fun i a c => absurd c (by omega)⟩
      rw [f_SH_finish_62, if_pos (by rw [le_lit (l := 8) (c := 8) rfl (by decide) (by omega)]; exact hk)]
    · have e : f_SH_finish_62 N (nI f) sl ms sc ch tg (n + 1) (nI k) y1 y2 y3 y4 = f_SH_finish_62 N (nI f) sl ms sc ch tg n (nI (k + 1)) y1 y2 y3 (upd y4 (f + k) (y3 k)) := by
        rw [f_SH_finish_62, if_neg (by rw [le_lit (l := 8) (c := 8) rfl (by decide) (by omega)]; exact hk), nI_1, nI_add, nI_clamp (by omega), nI_clamp (by omega)]
      obtain ⟨G, h0, h1, h2⟩ := ih (k + 1) y1 y2 y3 (upd y4 (f + k) (y3 k)) (by omega) (by omega)
      refine ⟨G, e.trans h0, fun j hj => by rw [h1 j (by omega), pk_un (by omega)], fun i a c => ?_⟩
      by_cases h5 : i = k
      · subst h5; rw [h1 (f + i) (by omega), pk_us]
      · exact h2 i (by omega) c
theorem cp8_of {G y4 D : Nat → Int32} {f : Nat} (h1 : ∀ j, (j < f + 0 ∨ f + 8 ≤ j) → G j = y4 j) (h2 : ∀ i, 0 ≤ i → i < 8 → G (f + i) = D i) : G = cp8 y4 f D := by
  funext j
  unfold cp8
  by_cases h : f ≤ j ∧ j < f + 8
  · rw [if_pos h]
    have h3 := h2 (j - f) (Nat.zero_le _) (by omega)
    rw [show f + (j - f) = j by omega] at h3
    exact h3
  · rw [if_neg h]
    exact h1 j (by omega)
theorem mo_ad (w th le lo da : Int32) (j : Nat) (hj : j < 2 ^ 31) (g : Nat → Int64) : f_MO_add w th le lo da (nI j) g = (nI (j + 1), vp_updL g j (ex w)) := by
  unfold f_MO_add
  rw [nI_1, nI_clamp hj]
  rfl
theorem hr16 (th le lo da si : Int32) (kc bg tx wi nw vv : Nat → Int64) (aw_ : Nat → Int32) (x1 : Int64) (e : Nat) (he : e = 16 ∨ e = 32) : ∀ (n j : Nat) (y3 y4 y5 y6 : Nat → Int64) (y7 : Nat → Int32), j ≤ e - 2 → e ≤ j + 17 → e - 2 - j < n → ∃ T : Nat → Int64, f_MO_hashText_16 th le lo da si kc bg tx wi nw vv aw_ n x1 (nI j) y3 y4 y5 y6 y7 = f_MO_hashText_49 th le lo da si kc bg tx wi nw vv aw_ 9 0 (nI e) T y4 y5 y6 y7 ∧ (∀ i, i < j → T i = y3 i) ∧ (∀ i, j ≤ i → i < e - 1 → T i = ex 0) ∧ T (e - 1) = ex x1.toInt32 := by
  intro n
  induction n with
  | zero => intro j y3 y4 y5 y6 y7 _ _ h; exact absurd h (Nat.not_lt_zero _)
  | succ n ih =>
    intro j y3 y4 y5 y6 y7 hj hj2 hn
    have c : (nI j - nI j / 16 * 16 = 14) ↔ j = e - 2 := by
      rw [show (16 : Int32) = nI 16 from rfl, pk_rem (by omega) (by decide) (by decide), show (14 : Int32) = nI 14 from rfl, nI_eq (by omega) (by decide)]
      omega
    by_cases hq : j = e - 2
    · refine ⟨vp_updL (vp_updL y3 j (ex 0)) (j + 1) (ex x1.toInt32), ?_, fun i hi => by rw [pk_uLn (by omega), pk_uLn (by omega)], fun i a d => ?_, ?_⟩
      · rw [f_MO_hashText_16, if_pos (c.mpr hq), mo_ad 0 th le lo da j (by omega) y3]
        dsimp only
        rw [mo_ad x1.toInt32 th le lo da (j + 1) (by omega) (vp_updL y3 j (ex 0))]
        rw [show j + 1 + 1 = e by omega]
      · have h5 : i = j := by omega
        subst h5
        rw [pk_uLn (by omega), pk_uLs]
      · rw [show e - 1 = j + 1 by omega, pk_uLs]
    · have e0 : f_MO_hashText_16 th le lo da si kc bg tx wi nw vv aw_ (n + 1) x1 (nI j) y3 y4 y5 y6 y7 = f_MO_hashText_16 th le lo da si kc bg tx wi nw vv aw_ n x1 (nI (j + 1)) (vp_updL y3 j (ex 0)) y4 y5 y6 y7 := by
        rw [f_MO_hashText_16, if_neg (fun z => hq (c.mp z)), mo_ad 0 th le lo da j (by omega) y3]
      obtain ⟨T, h0, h1, h2, h3⟩ := ih (j + 1) (vp_updL y3 j (ex 0)) y4 y5 y6 y7 (by omega) (by omega) (by omega)
      refine ⟨T, e0.trans h0, fun i hi => by rw [h1 i (by omega), pk_uLn (by omega)], fun i a d => ?_, h3⟩
      by_cases h5 : i = j
      · subst h5; rw [h1 i (by omega), pk_uLs]
      · exact h2 i (by omega) d
theorem hr49 (th le lo da si : Int32) (kc bg tx wi nw vv : Nat → Int64) (aw_ : Nat → Int32) : ∀ (n k : Nat) (y0 : Int32) (y3 y4 y5 y6 : Nat → Int64) (y7 : Nat → Int32), k ≤ 8 → 8 - k < n → ∃ C : Nat → Int64, f_MO_hashText_49 th le lo da si kc bg tx wi nw vv aw_ n (nI k) y0 y3 y4 y5 y6 y7 = f_MO_hashText_75 th le lo da si kc bg tx wi nw vv aw_ 33 0 y0 y3 y4 C y6 y7 ∧ (∀ i, i < k → C i = y5 i) ∧ ∀ i, k ≤ i → i < 8 → C i = bg i := by
  intro n
  induction n with
  | zero => intro k y0 y3 y4 y5 y6 y7 _ h; exact absurd h (Nat.not_lt_zero _)
  | succ n ih =>
    intro k y0 y3 y4 y5 y6 y7 h8 hn
    by_cases hk : 8 ≤ k
    · refine ⟨y5, ?_, fun _ _ => rfl, fun i a c => absurd c (by omega)⟩
      rw [f_MO_hashText_49, if_pos (by rw [le_lit (l := 8) (c := 8) rfl (by decide) (by omega)]; exact hk)]
    · have e : f_MO_hashText_49 th le lo da si kc bg tx wi nw vv aw_ (n + 1) (nI k) y0 y3 y4 y5 y6 y7 = f_MO_hashText_49 th le lo da si kc bg tx wi nw vv aw_ n (nI (k + 1)) y0 y3 y4 (vp_updL y5 k (bg k)) y6 y7 := by
        rw [f_MO_hashText_49, if_neg (by rw [le_lit (l := 8) (c := 8) rfl (by decide) (by omega)]; exact hk), nI_1, nI_clamp (by omega)]
      obtain ⟨C, h0, h1, h2⟩ := ih (k + 1) y0 y3 y4 (vp_updL y5 k (bg k)) y6 y7 (by omega) (by omega)
      refine ⟨C, e.trans h0, fun i hi => by rw [h1 i (by omega), pk_uLn (by omega)], fun i a c => ?_⟩
      by_cases h5 : i = k
      · subst h5; rw [h1 i (by omega), pk_uLs]
      · exact h2 i (by omega) c
theorem hr96 (th le lo da si : Int32) (kc bg tx wi nw vv : Nat → Int64) (aw_ : Nat → Int32) : ∀ (n k : Nat) (y0 : Int32) (y3 y4 y5 y6 : Nat → Int64) (y7 : Nat → Int32), k ≤ 8 → 8 - k < n → ∃ G : Nat → Int32, f_MO_hashText_96 th le lo da si kc bg tx wi nw vv aw_ n (nI k) y0 y3 y4 y5 y6 y7 = (0, y3, y4, y5, y6, G) ∧ (∀ j, (j < 0 + k ∨ 0 + 8 ≤ j) → G j = y7 j) ∧ ∀ i, k ≤ i → i < 8 → G (0 + i) = (y5 i).toInt32 := by
  intro n
  induction n with
  | zero => intro k y0 y3 y4 y5 y6 y7 _ h; exact absurd h (Nat.not_lt_zero _)
  | succ n ih =>
    intro k y0 y3 y4 y5 y6 y7 h8 hn
    by_cases hk : 8 ≤ k
    · refine ⟨y7, ?_, fun _ _ => rfl, fun i a c => absurd c (by omega)⟩
      rw [f_MO_hashText_96, if_pos (by rw [le_lit (l := 8) (c := 8) rfl (by decide) (by omega)]; exact hk)]
    · have e : f_MO_hashText_96 th le lo da si kc bg tx wi nw vv aw_ (n + 1) (nI k) y0 y3 y4 y5 y6 y7 = f_MO_hashText_96 th le lo da si kc bg tx wi nw vv aw_ n (nI (k + 1)) y0 y3 y4 y5 y6 (upd y7 k ((y5 k).toInt32)) := by
        rw [f_MO_hashText_96, if_neg (by rw [le_lit (l := 8) (c := 8) rfl (by decide) (by omega)]; exact hk), nI_1, nI_clamp (by omega)]
      obtain ⟨G, h0, h1, h2⟩ := ih (k + 1) y0 y3 y4 y5 y6 (upd y7 k ((y5 k).toInt32)) (by omega) (by omega)
      refine ⟨G, e.trans h0, fun j hj => by rw [h1 j (by omega), pk_un (by omega)], fun i a c => ?_⟩
      by_cases h5 : i = k
      · subst h5; rw [h1 (0 + i) (by omega), show 0 + i = i by omega, pk_us]
      · exact h2 i (by omega) c
theorem f37_16 (N : Nat) (fr sl : Int32) (ms sc ch tg : Nat → Int32) (n : Nat) (y1 y2 y3 y4 : Nat → Int32) : f_SH_finish_37 N fr sl ms sc ch tg (n + 2) (nI 16) 0 y1 y2 y3 y4 = f_SH_finish_62 N fr sl ms sc ch tg 9 0 y1 (f_SH_fillSchedule (nI 0) sl y1 y2 y3) (f_SH_foldSchedule sl y1 (f_SH_fillSchedule (nI 0) sl y1 y2 y3) y3) y4 := by
  rw [f_SH_finish_37, if_neg (by decide), f_SH_finish_37, if_pos (by decide)]
  rfl
theorem f37_32 (N : Nat) (fr sl : Int32) (ms sc ch tg : Nat → Int32) (n : Nat) (y1 y2 y3 y4 : Nat → Int32) : f_SH_finish_37 N fr sl ms sc ch tg (n + 3) (nI 32) 0 y1 y2 y3 y4 = f_SH_finish_62 N fr sl ms sc ch tg 9 0 y1 (f_SH_fillSchedule (nI 16) sl y1 (f_SH_fillSchedule (nI 0) sl y1 y2 y3) (f_SH_foldSchedule sl y1 (f_SH_fillSchedule (nI 0) sl y1 y2 y3) y3)) (f_SH_foldSchedule sl y1 (f_SH_fillSchedule (nI 16) sl y1 (f_SH_fillSchedule (nI 0) sl y1 y2 y3) (f_SH_foldSchedule sl y1 (f_SH_fillSchedule (nI 0) sl y1 y2 y3) y3)) (f_SH_foldSchedule sl y1 (f_SH_fillSchedule (nI 0) sl y1 y2 y3) y3)) y4 := by
  rw [f_SH_finish_37, if_neg (by decide), f_SH_finish_37, if_neg (by decide), f_SH_finish_37, if_pos (by decide)]
  rfl
theorem h75_s (th le lo da si : Int32) (kc bg tx wi nw vv : Nat → Int64) (aw_ : Nat → Int32) (n : Nat) (x y0 : Int32) (y3 y4 y5 y6 : Nat → Int64) (y7 : Nat → Int32) (m : (Nat → Int64) × (Nat → Int64) × (Nat → Int64)) (hm : f_MO_mix x th le lo da y0 kc y3 y4 y5 y6 = m) (h : ¬ y0 ≤ x) : f_MO_hashText_75 th le lo da si kc bg tx wi nw vv aw_ (n + 1) x y0 y3 y4 y5 y6 y7 = f_MO_hashText_75 th le lo da si kc bg tx wi nw vv aw_ n (x + 16) y0 y3 m.1 m.2.1 m.2.2 y7 := by
  subst hm
  rw [f_MO_hashText_75, if_neg h]
theorem h75_e (th le lo da si : Int32) (kc bg tx wi nw vv : Nat → Int64) (aw_ : Nat → Int32) (n : Nat) (x y0 : Int32) (y3 y4 y5 y6 : Nat → Int64) (y7 : Nat → Int32) (h : y0 ≤ x) : f_MO_hashText_75 th le lo da si kc bg tx wi nw vv aw_ (n + 1) x y0 y3 y4 y5 y6 y7 = f_MO_hashText_96 th le lo da si kc bg tx wi nw vv aw_ 9 0 y0 y3 y4 y5 y6 y7 := by
  rw [f_MO_hashText_75, if_pos h]
theorem h75_16 (th le lo da si : Int32) (kc bg tx wi nw vv : Nat → Int64) (aw_ : Nat → Int32) (n : Nat) (y3 y4 y5 y6 : Nat → Int64) (y7 : Nat → Int32) (m : (Nat → Int64) × (Nat → Int64) × (Nat → Int64)) (hm : f_MO_mix 0 th le lo da (nI 16) kc y3 y4 y5 y6 = m) : f_MO_hashText_75 th le lo da si kc bg tx wi nw vv aw_ (n + 2) 0 (nI 16) y3 y4 y5 y6 y7 = f_MO_hashText_96 th le lo da si kc bg tx wi nw vv aw_ 9 0 (nI 16) y3 m.1 m.2.1 m.2.2 y7 := by
  rw [h75_s th le lo da si kc bg tx wi nw vv aw_ (n + 1) 0 (nI 16) y3 y4 y5 y6 y7 m hm (by decide)]
  exact h75_e th le lo da si kc bg tx wi nw vv aw_ n (0 + 16) (nI 16) y3 m.1 m.2.1 m.2.2 y7 (by decide)
theorem h75_32 (th le lo da si : Int32) (kc bg tx wi nw vv : Nat → Int64) (aw_ : Nat → Int32) (n : Nat) (y3 y4 y5 y6 : Nat → Int64) (y7 : Nat → Int32) (m m' : (Nat → Int64) × (Nat → Int64) × (Nat → Int64)) (hm : f_MO_mix 0 th le lo da (nI 32) kc y3 y4 y5 y6 = m) (hm' : f_MO_mix (0 + 16) th le lo da (nI 32) kc y3 m.1 m.2.1 m.2.2 = m') : f_MO_hashText_75 th le lo da si kc bg tx wi nw vv aw_ (n + 3) 0 (nI 32) y3 y4 y5 y6 y7 = f_MO_hashText_96 th le lo da si kc bg tx wi nw vv aw_ 9 0 (nI 32) y3 m'.1 m'.2.1 m'.2.2 y7 := by
  rw [h75_s th le lo da si kc bg tx wi nw vv aw_ (n + 2) 0 (nI 32) y3 y4 y5 y6 y7 m hm (by decide), h75_s th le lo da si kc bg tx wi nw vv aw_ (n + 1) (0 + 16) (nI 32) y3 m.1 m.2.1 m.2.2 y7 m' hm' (by decide)]
  exact h75_e th le lo da si kc bg tx wi nw vv aw_ n (0 + 16 + 16) (nI 32) y3 m'.1 m'.2.1 m'.2.2 y7 (by decide)
theorem hash_rel (k : Nat) (hk : k ≤ 24) (th le lo da : Int32) (kc bg tx wi nw vv : Nat → Int64) (aw_ : Nat → Int32) (hkc : ∀ i, i < 64 → kc i = ex (sha_k i)) (hbg : ∀ i, i < 8 → bg i = ex (sha_h i)) (N f : Nat) (hf : f + 8 < 2 ^ 31) (ms sc ch tg : Nat → Int32) (hrel : ∀ i, i < k → tx i = ex (ms i)) :
    ∃ D : Nat → Int32, (f_SH_finish N (nI f) (nI k) ms sc ch tg).2.2.2 = cp8 tg f D ∧ (f_MO_hashText th le lo da (nI k) kc bg tx wi nw vv aw_).2.2.2.2.2 = cp8 aw_ 0 D := by
  obtain ⟨e, he⟩ : ∃ e : Nat, (k ≤ 13 ∧ e = 16) ∨ (13 < k ∧ e = 32) := by
    by_cases h : k ≤ 13
    · exact ⟨16, Or.inl ⟨h, rfl⟩⟩
    · exact ⟨32, Or.inr ⟨by omega, rfl⟩⟩
  have he2 : e = 16 ∨ e = 32 := by omega
  obtain ⟨M, p0, p1, p2, p3, p4⟩ := pad_is k hk ms sc ch e he
  obtain ⟨C, c0, -, c2⟩ := fi8 N (nI f) (nI k) ms sc ch tg 9 0 (nI e) M sc ch tg (by omega) (by omega)
  obtain ⟨T, t0, t1, t2, t3⟩ := hr16 th le lo da (nI k) kc bg tx wi nw vv aw_ (32 * (nI k).toInt64) e he2 31 (k + 1) (vp_updL tx k (ex (-2147483648))) wi nw vv aw_ (by omega) (by omega) (by omega)
  obtain ⟨B, b0, -, b2⟩ := hr49 th le lo da (nI k) kc bg tx wi nw vv aw_ 9 0 (nI e) T wi nw vv aw_ (by omega) (by omega)
  have hT : ∀ i, i < e → T i = ex (M i) := by
    intro i hi
    by_cases q1 : i < k
    · rw [t1 i (by omega), pk_uLn (by omega), hrel i q1, p1 i q1]
    · by_cases q2 : i = k
      · subst q2; rw [t1 i (by omega), pk_uLs, p2]
      · by_cases q3 : i < e - 1
        · rw [t2 i (by omega) q3, p3 i (by omega) q3]
        · have q4 : i = e - 1 := by omega
          subst q4
          rw [t3, p4, Int64.toInt32_mul, Int32.toInt32_toInt64]
          rfl
  have hB : ∀ i, i < 8 → B i = ex (C i) := fun i hi => by rw [b2 i (by omega) hi, c2 i (by omega) hi, hbg i hi]
  have eC : f_SH_finish N (nI f) (nI k) ms sc ch tg = f_SH_finish_37 N (nI f) (nI k) ms sc ch tg 33 (nI e) 0 M sc C tg := by
    unfold f_SH_finish f_SH_finish_c1
    rw [p0]
    exact c0
  have eR : f_MO_hashText th le lo da (nI k) kc bg tx wi nw vv aw_ = f_MO_hashText_75 th le lo da (nI k) kc bg tx wi nw vv aw_ 33 0 (nI e) T wi B vv aw_ := by
    unfold f_MO_hashText
    rw [mo_ad (-2147483648) th le lo da k (by omega) tx]
    exact t0.trans b0
  rw [eC, eR]
  rcases he2 with rfl | rfl
  · have hb1 := blk 0 (by decide) th le lo da (nI 16) kc T wi B vv (nI k) (nI k) M sc C hkc (fun i hi => hT _ (by omega)) hB
    rw [show nI 0 = (0 : Int32) from rfl] at hb1
    have eF := f37_16 N (nI f) (nI k) ms sc ch tg 31 M sc C tg
    rw [show nI 0 = (0 : Int32) from rfl] at eF
    rw [eF]
    generalize hm : f_MO_mix 0 th le lo da (nI 16) kc T wi B vv = m at hb1
    rw [h75_16 th le lo da (nI k) kc bg tx wi nw vv aw_ 31 T wi B vv aw_ m hm]
    generalize f_SH_fillSchedule 0 (nI k) M sc C = S1 at hb1 ⊢
    generalize f_SH_foldSchedule (nI k) M S1 C = C1 at hb1 ⊢
    obtain ⟨G, q0, q1, q2⟩ := fi62 N f hf (nI k) ms sc ch tg 9 0 M S1 C1 tg (by omega) (by omega)
    obtain ⟨G2, k0, k1, k2⟩ := hr96 th le lo da (nI k) kc bg tx wi nw vv aw_ 9 0 (nI 16) T m.1 m.2.1 m.2.2 aw_ (by omega) (by omega)
    rw [show nI 0 = (0 : Int32) from rfl] at q0 k0
    refine ⟨C1, ?_, ?_⟩
    · rw [q0]; exact cp8_of (G := G) q1 q2
    · rw [k0]; exact cp8_of (G := G2) k1 (fun i a c => by rw [k2 i a c, hb1 i c, ex_inv])
  · have hb1 := blk 0 (by decide) th le lo da (nI 32) kc T wi B vv (nI k) (nI k) M sc C hkc (fun i hi => hT _ (by omega)) hB
    rw [show nI 0 = (0 : Int32) from rfl] at hb1
    have eF := f37_32 N (nI f) (nI k) ms sc ch tg 30 M sc C tg
    rw [show nI 0 = (0 : Int32) from rfl] at eF
    rw [eF]
    generalize hm : f_MO_mix 0 th le lo da (nI 32) kc T wi B vv = m at hb1
    generalize f_SH_fillSchedule 0 (nI k) M sc C = S1 at hb1 ⊢
    generalize f_SH_foldSchedule (nI k) M S1 C = C1 at hb1 ⊢
    have hb2 := blk 16 (by decide) th le lo da (nI 32) kc T m.1 m.2.1 m.2.2 (nI k) (nI k) M S1 C1 hkc (fun i hi => hT _ (by omega)) hb1
    rw [show nI 16 = (0 + 16 : Int32) from rfl] at hb2 ⊢
    generalize hm' : f_MO_mix (0 + 16) th le lo da (nI 32) kc T m.1 m.2.1 m.2.2 = m' at hb2
    rw [h75_32 th le lo da (nI k) kc bg tx wi nw vv aw_ 30 T wi B vv aw_ m m' hm hm']
    generalize f_SH_fillSchedule (0 + 16) (nI k) M S1 C1 = S2 at hb2 ⊢
    generalize f_SH_foldSchedule (nI k) M S2 C1 = C2 at hb2 ⊢
    obtain ⟨G, q0, q1, q2⟩ := fi62 N f hf (nI k) ms sc ch tg 9 0 M S2 C2 tg (by omega) (by omega)
    obtain ⟨G2, k0, k1, k2⟩ := hr96 th le lo da (nI k) kc bg tx wi nw vv aw_ 9 0 (nI 32) T m'.1 m'.2.1 m'.2.2 aw_ (by omega) (by omega)
    rw [show nI 0 = (0 : Int32) from rfl] at q0 k0
    refine ⟨C2, ?_, ?_⟩
    · rw [q0]; exact cp8_of (G := G) q1 q2
    · rw [k0]; exact cp8_of (G := G2) k1 (fun i a c => by rw [k2 i a c, hb2 i c, ex_inv])

