/-! update: class against reference. -/
/-- words written one behind the other, as the reference writes -/
def wch (s : Nat) (Iw : Nat → Int32) : Nat → Nat → Int32 × Int32 × (Nat → Int32) → Int32 × Int32 × (Nat → Int32)
  | 0, _, v => v
  | n + 1, i, v => wch s Iw n (i + 1) (f_MO_write (nI (16 * s + i)) (Iw i) 0 v.1 v.2.1 0 0 v.2.2)
theorem wch_lost (s : Nat) (Iw : Nat → Int32) : ∀ (n i : Nat) (w : Nat → Int32), wch s Iw n i (0, 1, w) = (0, 1, w) := by
  intro n
  induction n with
  | zero => intro i w; rfl
  | succ n ih =>
    intro i w
    rw [wch]
    dsimp only
    rw [wr_lost]
    exact ih (i + 1) w
theorem wch_congr (s : Nat) {Iw Jw : Nat → Int32} : ∀ (n i : Nat) (v : Int32 × Int32 × (Nat → Int32)), (∀ j, i ≤ j → j < i + n → Iw j = Jw j) → wch s Iw n i v = wch s Jw n i v := by
  intro n
  induction n with
  | zero => intro i v _; rfl
  | succ n ih =>
    intro i v h
    rw [wch, wch, h i (Nat.le_refl _) (by omega)]
    exact ih (i + 1) _ (fun j a c => h j (by omega) (by omega))
theorem wch_add (s : Nat) (Iw : Nat → Int32) : ∀ (n m i : Nat) (v : Int32 × Int32 × (Nat → Int32)), wch s Iw (n + m) i v = wch s Iw m (i + n) (wch s Iw n i v) := by
  intro n
  induction n with
  | zero => intro m i v; rw [Nat.zero_add, Nat.add_zero]; rfl
  | succ n ih =>
    intro m i v
    rw [show n + 1 + m = (n + m) + 1 by omega, wch, ih m (i + 1), wch, show i + 1 + n = i + (n + 1) by omega]
theorem mwr_out (at0 wo th le lo da si : Int32) (fl : Nat → Int32) (j : Nat) (h : j ≠ at0.toNatClampNeg) : (f_MO_write at0 wo th le lo da si fl).2.2 j = fl j := by
  unfold f_MO_write f_MO_write_j12
  repeat' split
  all_goals first | rfl | exact pk_un h
theorem wch_out {s : Nat} (hs : s < 4) (Iw : Nat → Int32) : ∀ (n i : Nat) (v : Int32 × Int32 × (Nat → Int32)) (j : Nat), i + n ≤ 16 → 64 ≤ j → (wch s Iw n i v).2.2 j = v.2.2 j := by
  intro n
  induction n with
  | zero => intro i v j _ _; rfl
  | succ n ih =>
    intro i v j h h2
    rw [wch, ih (i + 1) _ j (by omega) h2]
    exact mwr_out _ _ _ _ _ _ _ _ j (by rw [nI_clamp (by omega)]; omega)
theorem cwrite {s : Nat} (hs : s < 4) (w : Nat → Int32) (a : Int32) (b : Nat → Int32) : ∀ (m n k : Nat) (wl : Int32) (fw : Nat → Int32), k + m = 16 → m < n → lef wl → wrt (f_IM_writeTo_2 (nI s) w a b n (nI k) wl fw) = wch s w m k (wl, 0, fw) ∧ wok (f_IM_writeTo_2 (nI s) w a b n (nI k) wl fw) := by
  intro m
  induction m with
  | zero =>
    intro n k wl fw hk hn hl
    obtain ⟨n, rfl⟩ : ∃ k, n = k + 1 := ⟨n - 1, by omega⟩
    rw [f_IM_writeTo_2, if_pos (by rw [le_lit (l := 16) (c := 16) rfl (by decide) (by omega)]; omega)]
    exact ⟨rfl, Or.inr rfl, fun z => absurd z one0, hl⟩
  | succ m ih =>
    intro n k wl fw hk hn hl
    obtain ⟨n, rfl⟩ : ∃ k, n = k + 1 := ⟨n - 1, by omega⟩
    rw [f_IM_writeTo_2, if_neg (by rw [le_lit (l := 16) (c := 16) rfl (by decide) (by omega)]; omega), wch, nI_clamp (by omega)]
    dsimp only
    rw [wr_rel (pl := nI s) (wd := nI k) (idx_so hs (by omega)).symm hl]
    have k1 := wr_ok (pl := nI s) (wd := nI k) (va := w k) (w := fw) hl
    generalize f_FL_write (nI s) (nI k) (w k) wl fw = u at k1 ⊢
    unfold f_IM_writeTo_c1
    by_cases q : u.1 = 0
    · rw [if_pos q, wrt_0 q k1, wch_lost]
      exact ⟨by unfold wrt; rw [if_pos rfl, k1.2.1 q], Or.inl rfl, fun _ => k1.2.1 q, k1.2.2⟩
    · rw [if_neg q, wrt_1 q, nI_1]
      exact ih n (k + 1) u.2.1 u.2.2 (by omega) (by omega) k1.2.2
/-! the image that the class composes -/
theorem comp24 (sg ve : Int32) (w0 : Nat → Int32) (dl : Int32) (d : Nat → Int32) : ∀ (n k : Nat) (y : Nat → Int32), k ≤ 6 → 6 - k < n → (f_IM_compose_24 sg ve w0 dl d n (nI k) y 7 = 0 ∧ (∀ i, (i ≤ k ∨ 7 < i) → f_IM_compose_24 sg ve w0 dl d n (nI k) y i = y i) ∧ ∀ i, k ≤ i → i < 6 → f_IM_compose_24 sg ve w0 dl d n (nI k) y (1 + i) = d i) := by
  intro n
  induction n with
  | zero => intro k y _ h; exact absurd h (Nat.not_lt_zero _)
  | succ n ih =>
    intro k y hk hn
    by_cases h : 6 ≤ k
    · rw [f_IM_compose_24, if_pos (by rw [le_lit (l := 6) (c := 6) rfl (by decide) (by omega)]; exact h)]
      refine ⟨pk_us, fun i hi => pk_un (by show i ≠ 7; omega), fun i a c => absurd c (by omega)⟩
    · rw [f_IM_compose_24, if_neg (by rw [le_lit (l := 6) (c := 6) rfl (by decide) (by omega)]; exact h), nI_1, show (1 : Int32) = nI 1 from rfl, nI_add, nI_clamp (by omega), nI_clamp (by omega)]
      obtain ⟨e1, e2, e3⟩ := ih (k + 1) (upd y (1 + k) (d k)) (by omega) (by omega)
      refine ⟨e1, fun i hi => by rw [e2 i (by omega), pk_un (by omega)], fun i a c => ?_⟩
      by_cases q : i = k
      · rw [q, e2 _ (by omega)]; exact pk_us
      · exact e3 i (by omega) c
theorem bear2 (w0 tg : Nat → Int32) : ∀ (n k : Nat) (y : Nat → Int32), k ≤ 8 → 8 - k < n → ((∀ i, i < 8 + k → f_IM_bear_2 w0 tg n (nI k) y i = y i) ∧ ∀ i, k ≤ i → i < 8 → f_IM_bear_2 w0 tg n (nI k) y (8 + i) = tg i) := by
  intro n
  induction n with
  | zero => intro k y _ h; exact absurd h (Nat.not_lt_zero _)
  | succ n ih =>
    intro k y hk hn
    by_cases h : 8 ≤ k
    · rw [f_IM_bear_2, if_pos (by rw [le_lit (l := 8) (c := 8) rfl (by decide) (by omega)]; exact h)]
      exact ⟨fun _ _ => rfl, fun i a c => absurd c (by omega)⟩
    · rw [f_IM_bear_2, if_neg (by rw [le_lit (l := 8) (c := 8) rfl (by decide) (by omega)]; exact h), nI_1, show (8 : Int32) = nI 8 from rfl, nI_add, nI_clamp (by omega), nI_clamp (by omega)]
      obtain ⟨e2, e3⟩ := ih (k + 1) (upd y (8 + k) (tg k)) (by omega) (by omega)
      refine ⟨fun i hi => by rw [e2 i (by omega), pk_un (by omega)], fun i a c => ?_⟩
      by_cases q : i = k
      · rw [q, e2 _ (by omega)]; exact pk_us
      · exact e3 i (by omega) c
/-- the words of an image: header, six of the draft, 0, seal, the last with bits turned over -/
def imW (h : Int32) (d : Nat → Int32) (D : Nat → Int32) (fl : Int32) : Nat → Int32 := fun i => if i = 0 then h else if i < 7 then d (i - 1) else if i = 7 then 0 else if i = 15 then D 7 ^^^ fl else D (i - 8)
def hdr (sg ve dl : Int32) : Int32 := 65536 * sg + 256 * ve + dl
theorem cimage (sg ve fl dl : Int32) (dw iw : Nat → Int32) (sl : Int32) (ms sc ch hh : Nat → Int32) : ∀ i, i < 16 → (f_BC_composeImage sg ve fl dl dw iw sl ms sc ch hh).1 i = imW (hdr sg ve dl) dw (dig (sealL sg (imW (hdr sg ve dl) dw zA 0) 0)) fl i := by
  obtain ⟨e7, e1, e2⟩ := comp24 sg ve iw dl dw 7 0 (upd iw ((0 : Int32)).toNatClampNeg (65536 * sg + 256 * ve + dl)) (by omega) (by omega)
  have ec : f_IM_compose sg ve iw dl dw = f_IM_compose_24 sg ve iw dl dw 7 (nI 0) (upd iw ((0 : Int32)).toNatClampNeg (65536 * sg + 256 * ve + dl)) := rfl
  rw [← ec] at e7 e1 e2
  unfold f_BC_composeImage f_BC_composeImage_c1
  generalize f_IM_compose sg ve iw dl dw = w at e7 e1 e2 ⊢
  have w0 : w 0 = hdr sg ve dl := (e1 0 (by omega)).trans pk_us
  have ws : ∀ i, i < 7 → w i = imW (hdr sg ve dl) dw zA 0 i := by
    intro i hi
    unfold imW
    by_cases q : i = 0
    · rw [if_pos q, q, w0]
    · rw [if_neg q, if_pos hi, ← e2 (i - 1) (by omega) (by omega), show 1 + (i - 1) = i by omega]
  have hs := cseal sg w hh sl ms sc ch
  rw [sealL_congr (sg := sg) (rr := w) (rr' := imW (hdr sg ve dl) dw zA 0) (a := 0) (a' := 0) (fun i hi => by rw [Nat.zero_add]; exact ws i hi)] at hs
  generalize f_IM_sealInto sg w hh sl ms sc ch = u at hs ⊢
  intro i hi
  show f_IM_turnOverLastWord fl (f_IM_bear w u.1) i = _
  rw [hs]
  generalize dig (sealL sg (imW (hdr sg ve dl) dw zA 0) 0) = D
  unfold f_IM_turnOverLastWord
  obtain ⟨b1, b2⟩ := bear2 w (cp8 hh 0 D) 9 0 w (by omega) (by omega)
  have eb : f_IM_bear w (cp8 hh 0 D) = f_IM_bear_2 w (cp8 hh 0 D) 9 (nI 0) w := rfl
  rw [← eb] at b1 b2
  have b15 := b2 7 (by omega) (by omega)
  unfold imW
  by_cases q : i = 15
  · rw [q, if_neg (by omega), if_neg (by omega), if_neg (by omega), if_pos rfl]
    refine pk_us.trans ?_
    rw [show ((15 : Int32)).toNatClampNeg = 8 + 7 from rfl, b15, cp8_in0 _ _ _ (by decide)]
  · rw [pk_un (show i ≠ ((15 : Int32)).toNatClampNeg from q)]
    by_cases q0 : i = 0
    · rw [if_pos q0, q0, b1 0 (by omega), w0]
    · rw [if_neg q0]
      by_cases q1 : i < 7
      · rw [if_pos q1, b1 i (by omega), ← e2 (i - 1) (by omega) (by omega), show 1 + (i - 1) = i by omega]
      · rw [if_neg q1]
        by_cases q2 : i = 7
        · rw [if_pos q2, q2, b1 7 (by omega), e7]
        · rw [if_neg q2, if_neg q]
          have := b2 (i - 8) (by omega) (by omega)
          rw [show 8 + (i - 8) = i by omega] at this
          rw [this, cp8_in0 _ _ _ (by omega)]
/-! the reference's message -/
theorem body36 (rec : Int32 → Int32 → (Nat → Int64) → Int32 × (Nat → Int64)) (sg ve th le lo da si : Int32) (tx : Nat → Int64) (dr : Nat → Int32) (d : Nat) (hd : d ≤ 24) (bt : Nat → Nat) (hz : ∀ i, d ≤ i → bt i = 0) (hb : ∀ i, i < d → dr i = nI (bt i)) (w : Nat) (hw : w < 6) (y : Int32) (g : Nat → Int64) : f_MO_addBody_36 rec sg ve (nI d) th le lo da si tx dr 5 (nI w) 0 (4 * nI w) y g = rec (nI (w + 1)) (f_MO_add (nI (wd4 bt w)) th le lo da y g).1 (f_MO_add (nI (wd4 bt w)) th le lo da y g).2 := by
  have step : ∀ (n k X : Nat), k < 4 → f_MO_addBody_36 rec sg ve (nI d) th le lo da si tx dr (n + 1) (nI w) (nI X) (nI (4 * w + k)) y g = f_MO_addBody_36 rec sg ve (nI d) th le lo da si tx dr n (nI w) (nI (256 * X + bt (4 * w + k))) (nI (4 * w + (k + 1))) y g := by
    intro n k X hk
    have c1 : ¬ (4 : Int32) * nI w + 4 ≤ nI (4 * w + k) := by
      rw [show (4 : Int32) = nI 4 from rfl, pk_mul, nI_add, nI_leI (by omega) (by omega)]; omega
    rw [f_MO_addBody_36, if_neg c1, nI_1, nI_clamp (by omega), Nat.add_assoc]
    by_cases q : d ≤ 4 * w + k
    · rw [if_pos ((nI_leI (by omega) (by omega)).mpr q), hz _ q, show (256 : Int32) = nI 256 from rfl, pk_mul, show (0 : Int32) = nI 0 from rfl, nI_add]
    · rw [if_neg (fun z => q ((nI_leI (by omega) (by omega)).mp z)), hb _ (by omega), show (256 : Int32) = nI 256 from rfl, pk_mul, nI_add]
  have e0 : (4 : Int32) * nI w = nI (4 * w + 0) := by rw [show (4 : Int32) = nI 4 from rfl, pk_mul]; rfl
  have c1 : (4 : Int32) * nI w + 4 ≤ nI (4 * w + (3 + 1)) := by
    rw [show (4 : Int32) = nI 4 from rfl, pk_mul, nI_add, nI_leI (by omega) (by omega)]; omega
  have st := (step 4 0 0 (by decide)).trans ((step 3 1 _ (by decide)).trans ((step 2 2 _ (by decide)).trans (step 1 3 _ (by decide))))
  rw [show nI 0 = (0 : Int32) from rfl] at st
  rw [e0, st, f_MO_addBody_36, if_pos c1, nI_1]
  have ew : 256 * (256 * (256 * (256 * 0 + bt (4 * w + 0)) + bt (4 * w + 1)) + bt (4 * w + 2)) + bt (4 * w + 3) = wd4 bt w := by
    unfold wd4; rw [Nat.add_zero]; omega
  rw [ew]
theorem body20 (sg ve th le lo da si : Int32) (tx : Nat → Int64) (dr : Nat → Int32) (d : Nat) (hd : d ≤ 24) (bt : Nat → Nat) (hz : ∀ i, d ≤ i → bt i = 0) (hb : ∀ i, i < d → dr i = nI (bt i)) : ∀ (m n w : Nat) (l : List Int32) (y : Int32) (g : Nat → Int64), m + w = 6 → m < n → rms l y g → l.length + m ≤ 24 → rms (l ++ rowL (fun j => nI (wd4 bt j)) 0 w m) (f_MO_addBody_20 sg ve (nI d) th le lo da si tx dr n (nI w) y g).1 (f_MO_addBody_20 sg ve (nI d) th le lo da si tx dr n (nI w) y g).2 := by
  intro m
  induction m with
  | zero =>
    intro n w l y g hm hn h hl
    obtain ⟨n, rfl⟩ : ∃ k, n = k + 1 := ⟨n - 1, by omega⟩
    rw [f_MO_addBody_20, if_pos (by rw [le_lit (l := 6) (c := 6) rfl (by decide) (by omega)]; omega), rowL_0, List.append_nil]
    exact h
  | succ m ih =>
    intro n w l y g hm hn h hl
    obtain ⟨n, rfl⟩ : ∃ k, n = k + 1 := ⟨n - 1, by omega⟩
    rw [f_MO_addBody_20, if_neg (by rw [le_lit (l := 6) (c := 6) rfl (by decide) (by omega)]; omega), body36 _ sg ve th le lo da si tx dr d hd bt hz hb w (by omega) y g, rowL_s, app_s, Nat.zero_add]
    exact ih n (w + 1) (l ++ [nI (wd4 bt w)]) _ _ (by omega) (by omega) (rms_add _ th le lo da h (by omega)) (by rw [List.length_append]; have : [nI (wd4 bt w)].length = 1 := rfl; omega)

