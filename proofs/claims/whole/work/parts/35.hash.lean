/-! Own rows: SHA-256, the class's against the reference's. -/
theorem ex_t2 (x : Int32) : f_MO_turned (ex x) 2 = ex (f_SH_turn x 2) := ex_turn x 2 2 ex_ok2
theorem ex_t6 (x : Int32) : f_MO_turned (ex x) 6 = ex (f_SH_turn x 6) := ex_turn x 6 6 ex_ok6
theorem ex_t7 (x : Int32) : f_MO_turned (ex x) 7 = ex (f_SH_turn x 7) := ex_turn x 7 7 ex_ok7
theorem ex_t11 (x : Int32) : f_MO_turned (ex x) 11 = ex (f_SH_turn x 11) := ex_turn x 11 11 ex_ok11
theorem ex_t13 (x : Int32) : f_MO_turned (ex x) 13 = ex (f_SH_turn x 13) := ex_turn x 13 13 ex_ok13
theorem ex_t17 (x : Int32) : f_MO_turned (ex x) 17 = ex (f_SH_turn x 17) := ex_turn x 17 17 ex_ok17
theorem ex_t18 (x : Int32) : f_MO_turned (ex x) 18 = ex (f_SH_turn x 18) := ex_turn x 18 18 ex_ok18
theorem ex_t19 (x : Int32) : f_MO_turned (ex x) 19 = ex (f_SH_turn x 19) := ex_turn x 19 19 ex_ok19
theorem ex_t22 (x : Int32) : f_MO_turned (ex x) 22 = ex (f_SH_turn x 22) := ex_turn x 22 22 ex_ok22
theorem ex_t25 (x : Int32) : f_MO_turned (ex x) 25 = ex (f_SH_turn x 25) := ex_turn x 25 25 ex_ok25
def g0 (x : Int32) : Int32 := (f_SH_turn x 7 ^^^ f_SH_turn x 18) ^^^ ju x 3
def g1 (x : Int32) : Int32 := (f_SH_turn x 17 ^^^ f_SH_turn x 19) ^^^ ju x 10
def stp (S : Nat → Int32) (i : Nat) : Int32 := ((S (i - 16) + g0 (S (i - 15))) + S (i - 7)) + g1 (S (i - 2))
def stL (W : Nat → Int64) (i : Nat) : Int64 := (((W (i - 16) + ((f_MO_turned (W (i - 15)) 7 ^^^ f_MO_turned (W (i - 15)) 18) ^^^ jsr (W (i - 15)) 3)) + W (i - 7)) + ((f_MO_turned (W (i - 2)) 17 ^^^ f_MO_turned (W (i - 2)) 19) ^^^ jsr (W (i - 2)) 10)) &&& 4294967295
theorem st_rel {W : Nat → Int64} {S : Nat → Int32} {i : Nat} (h : ∀ j, j < i → W j = ex (S j)) (hi : 16 ≤ i) : stL W i = ex (stp S i) := by
  unfold stL stp g0 g1
  rw [h (i - 16) (by omega), h (i - 15) (by omega), h (i - 7) (by omega), h (i - 2) (by omega), ex_mask]
  simp only [Int64.toInt32_add, Int64.toInt32_xor, ex_t7, ex_t18, ex_t17, ex_t19, ex_inv, ex_sr3, ex_sr10]
theorem cs16 {k : Nat} (h : 16 ≤ k) (h2 : k < 2 ^ 31) : (nI k - 16).toNatClampNeg = k - 16 := by rw [show (16 : Int32) = nI 16 from rfl, pk_sub h, nI_clamp (by omega)]
theorem cs15 {k : Nat} (h : 15 ≤ k) (h2 : k < 2 ^ 31) : (nI k - 15).toNatClampNeg = k - 15 := by rw [show (15 : Int32) = nI 15 from rfl, pk_sub h, nI_clamp (by omega)]
theorem cs7 {k : Nat} (h : 7 ≤ k) (h2 : k < 2 ^ 31) : (nI k - 7).toNatClampNeg = k - 7 := by rw [show (7 : Int32) = nI 7 from rfl, pk_sub h, nI_clamp (by omega)]
theorem cs2 {k : Nat} (h : 2 ≤ k) (h2 : k < 2 ^ 31) : (nI k - 2).toNatClampNeg = k - 2 := by rw [show (2 : Int32) = nI 2 from rfl, pk_sub h, nI_clamp (by omega)]
theorem le_lit {k c : Nat} {l : Int32} (hl : l = nI c) (hc : c < 2 ^ 31) (hk : k < 2 ^ 31) : (l ≤ nI k) = (c ≤ k) := by subst hl; exact propext (nI_leI hc hk)
theorem fs31 (bl sl : Int32) (ms sc ch : Nat → Int32) : ∀ (n k : Nat) (y : Nat → Int32), 16 ≤ k → k ≤ 64 → 64 - k < n → (∀ i, i < k → f_SH_fillSchedule_31 bl sl ms sc ch n (nI k) y i = y i) ∧ ∀ i, k ≤ i → i < 64 → f_SH_fillSchedule_31 bl sl ms sc ch n (nI k) y i = stp (f_SH_fillSchedule_31 bl sl ms sc ch n (nI k) y) i := by
  intro n
  induction n with
  | zero => intro k y _ _ h; exact absurd h (Nat.not_lt_zero _)
  | succ n ih =>
    intro k y h16 h64 hn
    by_cases hk : 64 ≤ k
    · have e : f_SH_fillSchedule_31 bl sl ms sc ch (n + 1) (nI k) y = y := by
        rw [f_SH_fillSchedule_31, if_pos (by rw [le_lit (l := 64) (c := 64) rfl (by decide) (by omega)]; exact hk)]
      rw [e]
      exact ⟨fun _ _ => rfl, fun i h1 h2 => absurd h2 (by omega)⟩
    · have e : f_SH_fillSchedule_31 bl sl ms sc ch (n + 1) (nI k) y = f_SH_fillSchedule_31 bl sl ms sc ch n (nI (k + 1)) (upd y k (stp y k)) := by
        rw [f_SH_fillSchedule_31, if_neg (by rw [le_lit (l := 64) (c := 64) rfl (by decide) (by omega)]; exact hk), nI_1, cs16 h16 (by omega), cs15 (by omega) (by omega), cs7 (by omega) (by omega), cs2 (by omega) (by omega), nI_clamp (by omega)]
        rfl
      rw [e]
      obtain ⟨h1, h2⟩ := ih (k + 1) (upd y k (stp y k)) (by omega) (by omega) (by omega)
      generalize f_SH_fillSchedule_31 bl sl ms sc ch n (nI (k + 1)) (upd y k (stp y k)) = F at h1 h2 ⊢
      have q : ∀ j, j < k → F j = y j := fun j hj => by rw [h1 j (by omega), pk_un (by omega)]
      refine ⟨q, fun i h3 h4 => ?_⟩
      by_cases h5 : i = k
      · subst h5
        rw [h1 i (by omega), pk_us]
        unfold stp
        rw [q _ (by omega), q _ (by omega), q _ (by omega), q _ (by omega)]
      · exact h2 i (by omega) h4
theorem fs2 (b : Nat) (hb : b ≤ 16) (sl : Int32) (ms sc ch : Nat → Int32) : ∀ (n k : Nat) (y : Nat → Int32), k ≤ 16 → 16 - k < n → ∃ S : Nat → Int32, f_SH_fillSchedule_2 (nI b) sl ms sc ch n (nI k) y = S ∧ (∀ i, i < k → S i = y i) ∧ (∀ i, k ≤ i → i < 16 → S i = ms (b + i)) ∧ ∀ i, 16 ≤ i → i < 64 → S i = stp S i := by
  intro n
  induction n with
  | zero => intro k y _ h; exact absurd h (Nat.not_lt_zero _)
  | succ n ih =>
    intro k y h16 hn
    by_cases hk : 16 ≤ k
    · have e : f_SH_fillSchedule_2 (nI b) sl ms sc ch (n + 1) (nI k) y = f_SH_fillSchedule_31 (nI b) sl ms sc ch 49 (nI 16) y := by
        rw [f_SH_fillSchedule_2, if_pos (by rw [le_lit (l := 16) (c := 16) rfl (by decide) (by omega)]; exact hk)]
        rfl
      obtain ⟨h1, h2⟩ := fs31 (nI b) sl ms sc ch 49 16 y (by decide) (by decide) (by decide)
      have hk2 : k = 16 := by omega
      subst hk2
      exact ⟨_, e, h1, fun i a c => absurd c (by omega), h2⟩
    · have e : f_SH_fillSchedule_2 (nI b) sl ms sc ch (n + 1) (nI k) y = f_SH_fillSchedule_2 (nI b) sl ms sc ch n (nI (k + 1)) (upd y k (ms (b + k))) := by
        rw [f_SH_fillSchedule_2, if_neg (by rw [le_lit (l := 16) (c := 16) rfl (by decide) (by omega)]; exact hk), nI_1, nI_add, nI_clamp (by omega), nI_clamp (by omega)]
      obtain ⟨S, h0, h1, h2, h3⟩ := ih (k + 1) (upd y k (ms (b + k))) (by omega) (by omega)
      refine ⟨S, e.trans h0, fun i hi => by rw [h1 i (by omega), pk_un (by omega)], fun i a c => ?_, h3⟩
      by_cases h5 : i = k
      · subst h5; rw [h1 i (by omega), pk_us]
      · exact h2 i (by omega) c
theorem sched (b : Nat) (hb : b ≤ 16) (sl : Int32) (ms sc ch : Nat → Int32) : (∀ i, i < 16 → f_SH_fillSchedule (nI b) sl ms sc ch i = ms (b + i)) ∧ ∀ i, 16 ≤ i → i < 64 → f_SH_fillSchedule (nI b) sl ms sc ch i = stp (f_SH_fillSchedule (nI b) sl ms sc ch) i := by
  obtain ⟨S, h0, -, h2, h3⟩ := fs2 b hb sl ms sc ch 17 0 sc (by omega) (by omega)
  have e : f_SH_fillSchedule (nI b) sl ms sc ch = S := h0
  rw [e]
  exact ⟨fun i hi => h2 i (by omega) hi, h3⟩
theorem mm2 (b : Nat) (hb : b ≤ 16) (th le lo da si : Int32) (kc tx wi nw vv : Nat → Int64) : ∀ (n k : Nat) (y3 y4 y5 : Nat → Int64), k ≤ 64 → 64 - k < n → ∃ W : Nat → Int64, f_MO_mix_2 (nI b) th le lo da si kc tx wi nw vv n (nI k) y3 y4 y5 = f_MO_mix_136 (nI b) th le lo da si kc tx wi nw vv 9 0 W y4 y5 ∧ (∀ i, i < k → W i = y3 i) ∧ (∀ i, k ≤ i → i < 16 → W i = tx (b + i)) ∧ ∀ i, k ≤ i → 16 ≤ i → i < 64 → W i = stL W i := by
  intro n
  induction n with
  | zero => intro k y3 y4 y5 _ h; exact absurd h (Nat.not_lt_zero _)
  | succ n ih =>
    intro k y3 y4 y5 h64 hn
    by_cases hk : 64 ≤ k
    · refine ⟨y3, ?_, fun _ _ => rfl, fun i a c => absurd c (by omega), fun i a c d => absurd d (by omega)⟩
      rw [f_MO_mix_2, if_pos (by rw [le_lit (l := 64) (c := 64) rfl (by decide) (by omega)]; exact hk)]
    · by_cases h16 : 16 ≤ k
      · have e : f_MO_mix_2 (nI b) th le lo da si kc tx wi nw vv (n + 1) (nI k) y3 y4 y5 = f_MO_mix_2 (nI b) th le lo da si kc tx wi nw vv n (nI (k + 1)) (vp_updL y3 k (stL y3 k)) y4 y5 := by
          rw [f_MO_mix_2, if_neg (by rw [le_lit (l := 64) (c := 64) rfl (by decide) (by omega)]; exact hk), if_pos (by rw [le_lit (l := 16) (c := 16) rfl (by decide) (by omega)]; exact h16), nI_1, cs16 h16 (by omega), cs15 (by omega) (by omega), cs7 (by omega) (by omega), cs2 (by omega) (by omega), nI_clamp (by omega)]
          rfl
        obtain ⟨W, h0, h1, h2, h3⟩ := ih (k + 1) (vp_updL y3 k (stL y3 k)) y4 y5 (by omega) (by omega)
        have q : ∀ j, j < k → W j = y3 j := fun j hj => by rw [h1 j (by omega), pk_uLn (by omega)]
        refine ⟨W, e.trans h0, q, fun i a c => absurd c (by omega), fun i a c d => ?_⟩
        by_cases h5 : i = k
        · subst h5
          rw [h1 i (by omega), pk_uLs]
          unfold stL
          rw [q _ (by omega), q _ (by omega), q _ (by omega), q _ (by omega)]
        · exact h3 i (by omega) c d
      · have e : f_MO_mix_2 (nI b) th le lo da si kc tx wi nw vv (n + 1) (nI k) y3 y4 y5 = f_MO_mix_2 (nI b) th le lo da si kc tx wi nw vv n (nI (k + 1)) (vp_updL y3 k (tx (b + k))) y4 y5 := by
          rw [f_MO_mix_2, if_neg (by rw [le_lit (l := 64) (c := 64) rfl (by decide) (by omega)]; exact hk), if_neg (by rw [le_lit (l := 16) (c := 16) rfl (by decide) (by omega)]; exact h16), nI_1, nI_add, nI_clamp (by omega), nI_clamp (by omega)]
        obtain ⟨W, h0, h1, h2, h3⟩ := ih (k + 1) (vp_updL y3 k (tx (b + k))) y4 y5 (by omega) (by omega)
        refine ⟨W, e.trans h0, fun i hi => by rw [h1 i (by omega), pk_uLn (by omega)], fun i a c => ?_, fun i a c d => h3 i (by omega) c d⟩
        by_cases h5 : i = k
        · subst h5; rw [h1 i (by omega), pk_uLs]
        · exact h2 i (by omega) c
theorem mm136 (fr th le lo da si : Int32) (kc tx wi nw vv : Nat → Int64) : ∀ (n k : Nat) (y3 y4 y5 : Nat → Int64), k ≤ 8 → 8 - k < n → ∃ V : Nat → Int64, f_MO_mix_136 fr th le lo da si kc tx wi nw vv n (nI k) y3 y4 y5 = f_MO_mix_162 fr th le lo da si kc tx wi nw vv 65 0 y3 y4 V ∧ (∀ i, i < k → V i = y5 i) ∧ ∀ i, k ≤ i → i < 8 → V i = y4 i := by
  intro n
  induction n with
  | zero => intro k y3 y4 y5 _ h; exact absurd h (Nat.not_lt_zero _)
  | succ n ih =>
    intro k y3 y4 y5 h8 hn
    by_cases hk : 8 ≤ k
    · refine ⟨y5, ?_, fun _ _ => rfl, fun i a c => absurd c (by omega)⟩
      rw [f_MO_mix_136, if_pos (by rw [le_lit (l := 8) (c := 8) rfl (by decide) (by omega)]; exact hk)]
    · have e : f_MO_mix_136 fr th le lo da si kc tx wi nw vv (n + 1) (nI k) y3 y4 y5 = f_MO_mix_136 fr th le lo da si kc tx wi nw vv n (nI (k + 1)) y3 y4 (vp_updL y5 k (y4 k)) := by
        rw [f_MO_mix_136, if_neg (by rw [le_lit (l := 8) (c := 8) rfl (by decide) (by omega)]; exact hk), nI_1, nI_clamp (by omega)]
      obtain ⟨V, h0, h1, h2⟩ := ih (k + 1) y3 y4 (vp_updL y5 k (y4 k)) (by omega) (by omega)
      refine ⟨V, e.trans h0, fun i hi => by rw [h1 i (by omega), pk_uLn (by omega)], fun i a c => ?_⟩
      by_cases h5 : i = k
      · subst h5; rw [h1 i (by omega), pk_uLs]
      · exact h2 i (by omega) c
theorem mm411 (fr th le lo da si : Int32) (kc tx wi nw vv : Nat → Int64) : ∀ (n k : Nat) (y3 y4 y5 : Nat → Int64), k ≤ 8 → 8 - k < n → ∃ N : Nat → Int64, f_MO_mix_411 fr th le lo da si kc tx wi nw vv n (nI k) y3 y4 y5 = (y3, N, y5) ∧ (∀ i, i < k → N i = y4 i) ∧ ∀ i, k ≤ i → i < 8 → N i = ex ((y4 i).toInt32 + (y5 i).toInt32) := by
  intro n
  induction n with
  | zero => intro k y3 y4 y5 _ h; exact absurd h (Nat.not_lt_zero _)
  | succ n ih =>
    intro k y3 y4 y5 h8 hn
    by_cases hk : 8 ≤ k
    · refine ⟨y4, ?_, fun _ _ => rfl, fun i a c => absurd c (by omega)⟩
      rw [f_MO_mix_411, if_pos (by rw [le_lit (l := 8) (c := 8) rfl (by decide) (by omega)]; exact hk)]
    · have e : f_MO_mix_411 fr th le lo da si kc tx wi nw vv (n + 1) (nI k) y3 y4 y5 = f_MO_mix_411 fr th le lo da si kc tx wi nw vv n (nI (k + 1)) y3 (vp_updL y4 k (ex ((y4 k).toInt32 + (y5 k).toInt32))) y5 := by
        rw [f_MO_mix_411, if_neg (by rw [le_lit (l := 8) (c := 8) rfl (by decide) (by omega)]; exact hk), nI_1, nI_clamp (by omega), ex_mask, Int64.toInt32_add]
      obtain ⟨N, h0, h1, h2⟩ := ih (k + 1) y3 (vp_updL y4 k (ex ((y4 k).toInt32 + (y5 k).toInt32))) y5 (by omega) (by omega)
      refine ⟨N, e.trans h0, fun i hi => by rw [h1 i (by omega), pk_uLn (by omega)], fun i a c => ?_⟩
      by_cases h5 : i = k
      · subst h5; rw [h1 i (by omega), pk_uLs]
      · rw [h2 i (by omega) c, pk_uLn h5]

