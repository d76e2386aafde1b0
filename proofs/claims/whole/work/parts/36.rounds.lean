/-! Own rows: the sixty-four rounds, a block, the whole hash. -/
def onL (v4 v5 v6 v7 k w : Int64) : Int64 := (((v7 + ((f_MO_turned v4 6 ^^^ f_MO_turned v4 11) ^^^ f_MO_turned v4 25)) + (v6 ^^^ (v4 &&& (v5 ^^^ v6)))) + k) + w
def twL (v0 v1 v2 : Int64) : Int64 := ((f_MO_turned v0 2 ^^^ f_MO_turned v0 13) ^^^ f_MO_turned v0 22) + ((v0 &&& v1) ||| (v2 &&& (v0 ||| v1)))
def on1 (e f g h k w : Int32) : Int32 := (((h + ((f_SH_turn e 6 ^^^ f_SH_turn e 11) ^^^ f_SH_turn e 25)) + ((e &&& f) ^^^ ((e ^^^ (-1)) &&& g))) + k) + w
def s01 (a : Int32) : Int32 := (f_SH_turn a 2 ^^^ f_SH_turn a 13) ^^^ f_SH_turn a 22
def mj1 (a b c : Int32) : Int32 := ((a &&& b) ^^^ (a &&& c)) ^^^ (b &&& c)
theorem on_rel (e f g h k w : Int32) : (onL (ex e) (ex f) (ex g) (ex h) (ex k) (ex w)).toInt32 = on1 e f g h k w := by
  unfold onL on1
  simp only [Int64.toInt32_add, Int64.toInt32_xor, Int64.toInt32_and, ex_t6, ex_t11, ex_t25, ex_inv, ch_eq]
theorem tw_rel (a b c : Int32) : (twL (ex a) (ex b) (ex c)).toInt32 = s01 a + mj1 a b c := by
  unfold twL s01 mj1
  simp only [Int64.toInt32_add, Int64.toInt32_xor, Int64.toInt32_and, Int64.toInt32_or, ex_t2, ex_t13, ex_t22, ex_inv, mj_eq]
theorem ixr {t : Nat} (c : Nat) {l : Int32} (hl : l = nI c) (ht : t ≤ 64) (hc : c ≤ 7) : ((((64 : Int32) - nI t) + l) - (((64 : Int32) - nI t) + l) / 8 * 8).toNatClampNeg = (64 - t + c) % 8 := by
  subst hl
  rw [show (64 : Int32) = nI 64 from rfl, pk_sub ht, nI_add, show (8 : Int32) = nI 8 from rfl, pk_rem (by omega) (by decide) (by decide), nI_clamp (by omega)]
theorem ixr0 {t : Nat} (ht : t ≤ 64) : (((64 : Int32) - nI t) - ((64 : Int32) - nI t) / 8 * 8).toNatClampNeg = (64 - t) % 8 := by
  rw [show (64 : Int32) = nI 64 from rfl, pk_sub ht, show (8 : Int32) = nI 8 from rfl, pk_rem (by omega) (by decide) (by decide), nI_clamp (by omega)]
/-- a round of the reference -/
def rdL (V W kc : Nat → Int64) (t : Nat) : Nat → Int64 :=
  vp_updL (vp_updL V ((64 - t + 3) % 8) ((V ((64 - t + 3) % 8) + onL (V ((64 - t + 4) % 8)) (V ((64 - t + 5) % 8)) (V ((64 - t + 6) % 8)) (V ((64 - t + 7) % 8)) (kc t) (W t)) &&& 4294967295)) ((64 - t + 7) % 8)
    ((onL (V ((64 - t + 4) % 8)) (V ((64 - t + 5) % 8)) (V ((64 - t + 6) % 8)) (V ((64 - t + 7) % 8)) (kc t) (W t) + twL (V ((64 - t) % 8)) (V ((64 - t + 1) % 8)) (V ((64 - t + 2) % 8))) &&& 4294967295)
set_option maxHeartbeats 2000000 in
theorem rd_step (fr th le lo da si : Int32) (kc tx wi nw vv : Nat → Int64) (n t : Nat) (ht : t < 64) (W y4 V : Nat → Int64) : f_MO_mix_162 fr th le lo da si kc tx wi nw vv (n + 1) (nI t) W y4 V = f_MO_mix_162 fr th le lo da si kc tx wi nw vv n (nI (t + 1)) W y4 (rdL V W kc t) := by
  rw [f_MO_mix_162, if_neg (by rw [le_lit (l := 64) (c := 64) rfl (by decide) (by omega)]; omega), nI_1, ixr (l := 1) 1 rfl (by omega) (by decide), ixr (l := 2) 2 rfl (by omega) (by decide), ixr (l := 3) 3 rfl (by omega) (by decide), ixr (l := 4) 4 rfl (by omega) (by decide), ixr (l := 5) 5 rfl (by omega) (by decide), ixr (l := 6) 6 rfl (by omega) (by decide), ixr (l := 7) 7 rfl (by omega) (by decide), ixr0 (by omega), nI_clamp (by omega)]
  rfl
def ad1 (f : Nat → Int32) (i : Nat) (x : Int32) : Nat → Int32 := upd f i (f i + x)
/-- the end of the class's rounds: eight sums -/
def fin8 (y : Nat → Int32) (a b c d e f g h : Int32) : Nat → Int32 := ad1 (ad1 (ad1 (ad1 (ad1 (ad1 (ad1 (ad1 y 0 a) 1 b) 2 c) 3 d) 4 e) 5 f) 6 g) 7 h
theorem ad1_s (f : Nat → Int32) (i : Nat) (x : Int32) : ad1 f i x i = f i + x := pk_us
theorem ad1_n (f : Nat → Int32) {i j : Nat} (x : Int32) (h : j ≠ i) : ad1 f i x j = f j := pk_un h
def nth8 (a b c d e f g h : Int32) (i : Nat) : Int32 := [a, b, c, d, e, f, g, h].getD i 0
theorem fin8_at (y : Nat → Int32) (a b c d e f g h : Int32) : ∀ i, i < 8 → fin8 y a b c d e f g h i = y i + nth8 a b c d e f g h i := by
  intro i hi
  have h8 : i = 0 ∨ i = 1 ∨ i = 2 ∨ i = 3 ∨ i = 4 ∨ i = 5 ∨ i = 6 ∨ i = 7 := by omega
  unfold fin8
  rcases h8 with rfl | rfl | rfl | rfl | rfl | rfl | rfl | rfl
  · rw [ad1_n _ _ (by decide), ad1_n _ _ (by decide), ad1_n _ _ (by decide), ad1_n _ _ (by decide), ad1_n _ _ (by decide), ad1_n _ _ (by decide), ad1_n _ _ (by decide), ad1_s]; rfl
  · rw [ad1_n _ _ (by decide), ad1_n _ _ (by decide), ad1_n _ _ (by decide), ad1_n _ _ (by decide), ad1_n _ _ (by decide), ad1_n _ _ (by decide), ad1_s, ad1_n _ _ (by decide)]; rfl
  · rw [ad1_n _ _ (by decide), ad1_n _ _ (by decide), ad1_n _ _ (by decide), ad1_n _ _ (by decide), ad1_n _ _ (by decide), ad1_s, ad1_n _ _ (by decide), ad1_n _ _ (by decide)]; rfl
  · rw [ad1_n _ _ (by decide), ad1_n _ _ (by decide), ad1_n _ _ (by decide), ad1_n _ _ (by decide), ad1_s, ad1_n _ _ (by decide), ad1_n _ _ (by decide), ad1_n _ _ (by decide)]; rfl
  · rw [ad1_n _ _ (by decide), ad1_n _ _ (by decide), ad1_n _ _ (by decide), ad1_s, ad1_n _ _ (by decide), ad1_n _ _ (by decide), ad1_n _ _ (by decide), ad1_n _ _ (by decide)]; rfl
  · rw [ad1_n _ _ (by decide), ad1_n _ _ (by decide), ad1_s, ad1_n _ _ (by decide), ad1_n _ _ (by decide), ad1_n _ _ (by decide), ad1_n _ _ (by decide), ad1_n _ _ (by decide)]; rfl
  · rw [ad1_n _ _ (by decide), ad1_s, ad1_n _ _ (by decide), ad1_n _ _ (by decide), ad1_n _ _ (by decide), ad1_n _ _ (by decide), ad1_n _ _ (by decide), ad1_n _ _ (by decide)]; rfl
  · rw [ad1_s, ad1_n _ _ (by decide), ad1_n _ _ (by decide), ad1_n _ _ (by decide), ad1_n _ _ (by decide), ad1_n _ _ (by decide), ad1_n _ _ (by decide), ad1_n _ _ (by decide)]; rfl
set_option maxHeartbeats 4000000 in
theorem fo_end (sl : Int32) (ms sc ch : Nat → Int32) (n t : Nat) (ht : 64 ≤ t) (h2 : t < 2 ^ 31) (a b c d e f g h : Int32) (y : Nat → Int32) : f_SH_foldSchedule_66 sl ms sc ch (n + 1) a b c d e f g h (nI t) y = fin8 y a b c d e f g h := by
  rw [f_SH_foldSchedule_66, if_pos (by rw [le_lit (l := 64) (c := 64) rfl (by decide) h2]; exact ht)]
  rfl
theorem fo_step (sl : Int32) (ms sc ch : Nat → Int32) (n t : Nat) (ht : t < 64) (a b c d e f g h : Int32) (y : Nat → Int32) : f_SH_foldSchedule_66 sl ms sc ch (n + 1) a b c d e f g h (nI t) y = f_SH_foldSchedule_66 sl ms sc ch n ((on1 e f g h (sha_k t) (sc t) + s01 a) + mj1 a b c) a b c (d + on1 e f g h (sha_k t) (sc t)) e f g (nI (t + 1)) y := by
  rw [f_SH_foldSchedule_66, if_neg (by rw [le_lit (l := 64) (c := 64) rfl (by decide) (by omega)]; omega), nI_1, nI_clamp (by omega)]
  rfl
theorem rnd (fr th le lo da si : Int32) (kc tx wi nw vv : Nat → Int64) (sl : Int32) (ms S ch : Nat → Int32) (W : Nat → Int64) (hW : ∀ i, i < 64 → W i = ex (S i)) (hk : ∀ i, i < 64 → kc i = ex (sha_k i)) (y : Nat → Int32) (y4 : Nat → Int64) : ∀ (n t : Nat) (a b c d e f g h : Int32) (V : Nat → Int64), t ≤ 64 → 64 - t < n →
    V ((64 - t) % 8) = ex a → V ((64 - t + 1) % 8) = ex b → V ((64 - t + 2) % 8) = ex c → V ((64 - t + 3) % 8) = ex d → V ((64 - t + 4) % 8) = ex e → V ((64 - t + 5) % 8) = ex f → V ((64 - t + 6) % 8) = ex g → V ((64 - t + 7) % 8) = ex h →
    ∃ (a' b' c' d' e' f' g' h' : Int32) (V' : Nat → Int64), f_SH_foldSchedule_66 sl ms S ch n a b c d e f g h (nI t) y = fin8 y a' b' c' d' e' f' g' h' ∧ f_MO_mix_162 fr th le lo da si kc tx wi nw vv n (nI t) W y4 V = f_MO_mix_411 fr th le lo da si kc tx wi nw vv 9 0 W y4 V' ∧ ∀ i, i < 8 → V' i = ex (nth8 a' b' c' d' e' f' g' h' i) := by
  intro n
  induction n with
  | zero => intro t a b c d e f g h V _ hn; exact absurd hn (Nat.not_lt_zero _)
  | succ n ih =>
    intro t a b c d e f g h V ht hn h0 h1 h2 h3 h4 h5 h6 h7
    by_cases hq : 64 ≤ t
    · have ht2 : t = 64 := by omega
      subst ht2
      refine ⟨a, b, c, d, e, f, g, h, V, fo_end sl ms S ch n 64 hq (by decide) a b c d e f g h y, ?_, ?_⟩
      · rw [f_MO_mix_162, if_pos (by rw [le_lit (l := 64) (c := 64) rfl (by decide) (by decide)]; exact hq)]
      · intro i hi
        have h8 : i = 0 ∨ i = 1 ∨ i = 2 ∨ i = 3 ∨ i = 4 ∨ i = 5 ∨ i = 6 ∨ i = 7 := by omega
        rcases h8 with rfl | rfl | rfl | rfl | rfl | rfl | rfl | rfl
        · exact h0
        · exact h1
        · exact h2
        · exact h3
        · exact h4
        · exact h5
        · exact h6
        · exact h7
    · have ht2 : t < 64 := by omega
      rw [rd_step fr th le lo da si kc tx wi nw vv n t ht2 W y4 V, fo_step sl ms S ch n t ht2 a b c d e f g h y]
      have o : ∀ j, j ≠ (64 - t + 3) % 8 → j ≠ (64 - t + 7) % 8 → rdL V W kc t j = V j := fun j a1 a2 => by
        unfold rdL
        rw [pk_uLn a2, pk_uLn a1]
      have e7 : rdL V W kc t ((64 - t + 7) % 8) = ex ((on1 e f g h (sha_k t) (S t) + s01 a) + mj1 a b c) := by
        unfold rdL
        rw [pk_uLs, h0, h1, h2, h4, h5, h6, h7, hk t ht2, hW t ht2, ex_mask, Int64.toInt32_add, on_rel, tw_rel, Int32.add_assoc]
      have e3 : rdL V W kc t ((64 - t + 3) % 8) = ex (d + on1 e f g h (sha_k t) (S t)) := by
        unfold rdL
        rw [pk_uLn (by omega), pk_uLs, h3, h4, h5, h6, h7, hk t ht2, hW t ht2, ex_mask, Int64.toInt32_add, on_rel, ex_inv]
      refine ih (t + 1) _ a b c _ e f g (rdL V W kc t) (by omega) (by omega) ?_ ?_ ?_ ?_ ?_ ?_ ?_ ?_
      · rw [show (64 - (t + 1)) % 8 = (64 - t + 7) % 8 by omega]; exact e7
      · rw [show (64 - (t + 1) + 1) % 8 = (64 - t) % 8 by omega, o _ (by omega) (by omega)]; exact h0
      · rw [show (64 - (t + 1) + 2) % 8 = (64 - t + 1) % 8 by omega, o _ (by omega) (by omega)]; exact h1
      · rw [show (64 - (t + 1) + 3) % 8 = (64 - t + 2) % 8 by omega, o _ (by omega) (by omega)]; exact h2
      · rw [show (64 - (t + 1) + 4) % 8 = (64 - t + 3) % 8 by omega]; exact e3
      · rw [show (64 - (t + 1) + 5) % 8 = (64 - t + 4) % 8 by omega, o _ (by omega) (by omega)]; exact h4
      · rw [show (64 - (t + 1) + 6) % 8 = (64 - t + 5) % 8 by omega, o _ (by omega) (by omega)]; exact h5
      · rw [show (64 - (t + 1) + 7) % 8 = (64 - t + 6) % 8 by omega, o _ (by omega) (by omega)]; exact h6
/-- a block: the reference's now is the class's chained row -/
theorem blk (b : Nat) (hb : b ≤ 16) (th le lo da si : Int32) (kc tx wi nw vv : Nat → Int64) (sl sl2 : Int32) (ms sc ch : Nat → Int32) (hk : ∀ i, i < 64 → kc i = ex (sha_k i)) (hm : ∀ i, i < 16 → tx (b + i) = ex (ms (b + i))) (hn : ∀ i, i < 8 → nw i = ex (ch i)) :
    ∀ i, i < 8 → (f_MO_mix (nI b) th le lo da si kc tx wi nw vv).2.1 i = ex (f_SH_foldSchedule sl ms (f_SH_fillSchedule (nI b) sl2 ms sc ch) ch i) := by
  obtain ⟨s1, s2⟩ := sched b hb sl2 ms sc ch
  generalize f_SH_fillSchedule (nI b) sl2 ms sc ch = S at s1 s2 ⊢
  obtain ⟨W, w0, -, w2, w3⟩ := mm2 b hb th le lo da si kc tx wi nw vv 65 0 wi nw vv (by omega) (by omega)
  have hW : ∀ i, i < 64 → W i = ex (S i) := by
    intro i
    induction i using Nat.strongRecOn with
    | _ i ih =>
      intro hi
      by_cases h16 : 16 ≤ i
      · rw [w3 i (by omega) h16 hi, s2 i h16 hi]
        exact st_rel (fun j hj => ih j hj (by omega)) h16
      · rw [w2 i (by omega) (by omega), s1 i (by omega), hm i (by omega)]
  obtain ⟨V, v0, -, v2⟩ := mm136 (nI b) th le lo da si kc tx wi nw vv 9 0 W nw vv (by omega) (by omega)
  have hV : ∀ i, i < 8 → V i = ex (ch i) := fun i hi => by rw [v2 i (by omega) hi, hn i hi]
  obtain ⟨a', b', c', d', e', f', g', h', V', r1, r2, r3⟩ := rnd (nI b) th le lo da si kc tx wi nw vv sl ms S ch W hW hk ch nw 65 0 (ch 0) (ch 1) (ch 2) (ch 3) (ch 4) (ch 5) (ch 6) (ch 7) V (by omega) (by omega) (hV 0 (by decide)) (hV 1 (by decide)) (hV 2 (by decide)) (hV 3 (by decide)) (hV 4 (by decide)) (hV 5 (by decide)) (hV 6 (by decide)) (hV 7 (by decide))
  obtain ⟨N, n0, -, n2⟩ := mm411 (nI b) th le lo da si kc tx wi nw vv 9 0 W nw V' (by omega) (by omega)
  intro i hi
  have eR : f_MO_mix (nI b) th le lo da si kc tx wi nw vv = (W, N, V') := by
    unfold f_MO_mix
    exact w0.trans (v0.trans (r2.trans n0))
  have eC : f_SH_foldSchedule sl ms S ch = fin8 ch a' b' c' d' e' f' g' h' := r1
  rw [eR, eC, fin8_at _ _ _ _ _ _ _ _ _ i hi]
  show N i = _
  rw [n2 i (by omega) hi, r3 i hi, hn i hi, ex_inv, ex_inv]

