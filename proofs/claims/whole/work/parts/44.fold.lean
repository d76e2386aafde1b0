/-! Turning off; starting an image: class against reference. -/
def zr (k : Nat) (g : Nat → Int32) : Nat → Int32 := fun j => if k ≤ j ∧ j < 16 then 0 else g j
theorem zr_16 {k : Nat} (h : 16 ≤ k) (g : Nat → Int32) : zr k g = g := by
  funext j
  unfold zr
  rw [if_neg (by omega)]
theorem zr_s {k : Nat} (h : k < 16) (g : Nat → Int32) : zr (k + 1) (upd g k 0) = zr k g := by
  funext j
  unfold zr upd
  by_cases h1 : j = k
  · rw [if_neg (by omega), if_pos h1, if_pos (by omega)]
  · by_cases h2 : k ≤ j ∧ j < 16
    · rw [if_pos (by omega), if_pos h2]
    · rw [if_neg (by omega), if_neg h1, if_neg h2]
def off2 (r : Nat → Int32) : Nat → Int32 := upd (upd r 0 (-1)) 1 (-1)
theorem off2_0 (r : Nat → Int32) : off2 r 0 = -1 := rfl
theorem off2_1 (r : Nat → Int32) : off2 r 1 = -1 := rfl
theorem toff22 (ru rg : Nat → Int32) : ∀ (n k : Nat) (y1 y2 : Nat → Int32), k ≤ 16 → 16 - k < n → f_BC_turnOff_22 ru rg n (nI k) y1 y2 = (y1, zr k y2) := by
  intro n
  induction n with
  | zero => intro k y1 y2 _ h; exact absurd h (Nat.not_lt_zero _)
  | succ n ih =>
    intro k y1 y2 hk hn
    by_cases h : 16 ≤ k
    · rw [f_BC_turnOff_22, if_pos (by rw [le_lit (l := 16) (c := 16) rfl (by decide) (by omega)]; exact h), zr_16 h]
    · rw [f_BC_turnOff_22, if_neg (by rw [le_lit (l := 16) (c := 16) rfl (by decide) (by omega)]; exact h), nI_1, nI_clamp (by omega), ih (k + 1) y1 _ (by omega) (by omega), zr_s (by omega)]
theorem toff (ru rg : Nat → Int32) : f_BC_turnOff ru rg = (off2 ru, zr 0 rg) := by
  unfold f_BC_turnOff
  rw [f_BC_turnOff_2, if_neg (by decide), f_BC_turnOff_2, if_neg (by decide), f_BC_turnOff_2, if_pos (by decide)]
  exact toff22 ru rg 17 0 _ _ (by omega) (by omega)
theorem moff2 (th le lo da si : Int32) (rn rg : Nat → Int32) : ∀ (n k : Nat) (y1 y2 : Nat → Int32), k ≤ 16 → 16 - k < n → f_MO_off_2 th le lo da si rn rg n (nI k) y1 y2 = (off2 y1, zr k y2) := by
  intro n
  induction n with
  | zero => intro k y1 y2 _ h; exact absurd h (Nat.not_lt_zero _)
  | succ n ih =>
    intro k y1 y2 hk hn
    by_cases h : 16 ≤ k
    · rw [f_MO_off_2, if_pos (by rw [le_lit (l := 16) (c := 16) rfl (by decide) (by omega)]; exact h), zr_16 h]
      rfl
    · rw [f_MO_off_2, if_neg (by rw [le_lit (l := 16) (c := 16) rfl (by decide) (by omega)]; exact h), nI_1, nI_clamp (by omega), ih (k + 1) y1 _ (by omega) (by omega), zr_s (by omega)]
theorem moff (th le lo da si : Int32) (rn rg : Nat → Int32) : f_MO_off th le lo da si rn rg = (off2 rn, zr 0 rg) := moff2 th le lo da si rn rg 17 0 rn rg (by omega) (by omega)
/-- what a register takes in: itself, and the digest of the image's first seven words -/
def imgL (fl : Nat → Int32) (a : Nat) : List Int32 := [] ++ rowL fl a 0 7
def fldL (rg : Nat → Int32) (g : Nat) (D : Nat → Int32) : List Int32 := [] ++ rowL rg (8 * g) 0 8 ++ rowL D 0 0 8
theorem fldL_len (rg : Nat → Int32) (g : Nat) (D : Nat → Int32) : (fldL rg g D).length = 16 := by
  unfold fldL
  rw [List.length_append, List.length_append, rowL_len, rowL_len]
  rfl
theorem fldL_congr (rg : Nat → Int32) (g : Nat) {D D' : Nat → Int32} (h : ∀ i, i < 8 → D i = D' i) : fldL rg g D = fldL rg g D' := by
  unfold fldL
  rw [rowL_congr (rr := D) (rr' := D') (a := 0) (a' := 0) 8 0 (fun i _ hi => by rw [Nat.zero_add]; exact h i (by omega))]
theorem fld_cp (rg hh : Nat → Int32) (g : Nat) (D : Nat → Int32) : fldL rg g (cp8 hh 0 D) = fldL rg g D := fldL_congr rg g (fun i hi => cp8_in0 hh D i hi)
def fld (rg fl : Nat → Int32) (g s : Nat) : Nat → Int32 := cp8 rg (8 * g) (dig (fldL rg g (dig (imgL fl (16 * s)))))
theorem imgL_congr {w fl : Nat → Int32} {s : Nat} (hw : ∀ j, j < 16 → w j = fl (16 * s + j)) : imgL w 0 = imgL fl (16 * s) := by
  unfold imgL
  rw [rowL_congr (rr := w) (rr' := fl) (a := 0) (a' := 16 * s) 7 0 (fun i _ hi => by rw [Nat.zero_add]; exact hw i (by omega))]
theorem cstart {s g : Nat} (hs : s < 4) (hg : g < 2) {sg : Int32} (hsg : sg = nI g) (wl : Int32) (fw iw : Nat → Int32) (sl : Int32) (ms sc ch ru rg hh : Nat → Int32) : (f_BC_start sg (nI s) wl fw iw sl ms sc ch ru rg hh).2.2.2.2.2.1 = upd ru g (nI s) ∧ (f_BC_start sg (nI s) wl fw iw sl ms sc ch ru rg hh).2.2.2.2.2.2.1 = fld rg fw g s := by
  subst hsg
  have hw := load_at hs iw wl fw
  unfold f_BC_start f_IM_digestInto f_IM_digestInto_c1
  generalize f_IM_load (nI s) iw wl fw = w at hw ⊢
  have h1 := cms_row (N := 16) (a := 0) (c := 7) (fr := 0) (co := 7) sc ch w rfl rfl (by decide) (cms_nil ms) (by decide)
  rw [show f_SH_begin sl ms sc ch = 0 from rfl]
  generalize f_SH_addRow 16 0 7 0 ms sc ch w = u1 at h1 ⊢
  have h2 := cfin 8 0 (fr := 0) rfl (by decide) sc ch hh h1 (by rw [List.length_append, rowL_len]; decide)
  generalize f_SH_finish 8 0 u1.1 u1.2 sc ch hh = u2 at h2 ⊢
  unfold f_IM_digestInto_c2 f_BC_start_c1
  dsimp only
  rw [show f_SH_begin u1.1 u2.1 u2.2.1 u2.2.2.1 = 0 from rfl]
  have e8 : (8 : Int32) * nI g = nI (8 * g) := by rw [show (8 : Int32) = nI 8 from rfl, pk_mul]
  rw [e8]
  have h3 := cms_row (N := 16) (a := 8 * g) (c := 8) (fr := nI (8 * g)) (co := 8) u2.2.1 u2.2.2.1 rg rfl rfl (by omega) (cms_nil u2.1) (by decide)
  generalize f_SH_addRow 16 (nI (8 * g)) 8 0 u2.1 u2.2.1 u2.2.2.1 rg = u3 at h3 ⊢
  unfold f_BC_start_c2
  dsimp only
  have h4 := cms_row (N := 8) (a := 0) (c := 8) (fr := 0) (co := 8) u2.2.1 u2.2.2.1 u2.2.2.2 rfl rfl (by decide) h3 (by rw [List.length_append, rowL_len]; decide)
  generalize f_SH_addRow 8 0 8 u3.1 u3.2 u2.2.1 u2.2.2.1 u2.2.2.2 = u4 at h4 ⊢
  unfold f_BC_start_c3
  dsimp only
  rw [e8]
  have h5 := cfin 16 (8 * g) (fr := nI (8 * g)) rfl (by omega) u2.2.1 u2.2.2.1 rg h4 (by have := fldL_len rg g u2.2.2.2; unfold fldL at this; omega)
  generalize f_SH_finish 16 (nI (8 * g)) u4.1 u4.2 u2.2.1 u2.2.2.1 rg = u5 at h5 ⊢
  unfold f_BC_start_c4
  dsimp only
  refine ⟨by rw [nI_clamp (by omega)], ?_⟩
  rw [h5]
  unfold fld
  rw [← imgL_congr hw]
  show cp8 rg (8 * g) (dig (fldL rg g u2.2.2.2)) = _
  rw [h2, fld_cp]
  rfl
theorem f49 (g : Nat) (hg : g < 2) (so th le lo da si : Int32) (kc bg tx wi nw vv : Nat → Int64) (aw_ fl rg : Nat → Int32) : ∀ (n k : Nat) (y0 : Int32) (y3 y4 y5 y6 : Nat → Int64) (y7 y9 : Nat → Int32), k ≤ 8 → 8 - k < n → ∃ G : Nat → Int32, f_MO_fold_49 (nI g) so th le lo da si kc bg tx wi nw vv aw_ fl rg n (nI k) y0 y3 y4 y5 y6 y7 y9 = (y0, y3, y4, y5, y6, y7, G) ∧ (∀ j, (j < 8 * g + k ∨ 8 * g + 8 ≤ j) → G j = y9 j) ∧ ∀ i, k ≤ i → i < 8 → G (8 * g + i) = y7 i := by
  intro n
  induction n with
  | zero => intro k y0 y3 y4 y5 y6 y7 y9 _ h; exact absurd h (Nat.not_lt_zero _)
  | succ n ih =>
    intro k y0 y3 y4 y5 y6 y7 y9 h8 hn
    by_cases hk : 8 ≤ k
    · refine ⟨y9, ?_, fun _ _ => rfl, fun i a c => absurd c (by omega)⟩
      rw [f_MO_fold_49, if_pos (by rw [le_lit (l := 8) (c := 8) rfl (by decide) (by omega)]; exact hk)]
    · have e : f_MO_fold_49 (nI g) so th le lo da si kc bg tx wi nw vv aw_ fl rg (n + 1) (nI k) y0 y3 y4 y5 y6 y7 y9 = f_MO_fold_49 (nI g) so th le lo da si kc bg tx wi nw vv aw_ fl rg n (nI (k + 1)) y0 y3 y4 y5 y6 y7 (upd y9 (8 * g + k) (y7 k)) := by
        rw [f_MO_fold_49, if_neg (by rw [le_lit (l := 8) (c := 8) rfl (by decide) (by omega)]; exact hk), nI_1, show (8 : Int32) = nI 8 from rfl, pk_mul, nI_add, nI_clamp (by omega), nI_clamp (by omega)]
      obtain ⟨G, h0, h1, h2⟩ := ih (k + 1) y0 y3 y4 y5 y6 y7 (upd y9 (8 * g + k) (y7 k)) (by omega) (by omega)
      refine ⟨G, e.trans h0, fun j hj => by rw [h1 j (by omega), pk_un (by omega)], fun i a c => ?_⟩
      by_cases h5 : i = k
      · subst h5; rw [h1 (8 * g + i) (by omega), pk_us]
      · exact h2 i (by omega) c
theorem rfold {s g : Nat} (hs : s < 4) (hg : g < 2) {sg so : Int32} (hsg : sg = nI g) (hso : so = nI s) (th le lo da : Int32) {kc bg : Nat → Int64} (tx wi nw vv : Nat → Int64) (aw_ fl rg : Nat → Int32) (hkc : kcOk kc) (hbg : bgOk bg) : (f_MO_fold sg so th le lo da 0 kc bg tx wi nw vv aw_ fl rg).2.2.2.2.2.2 = fld rg fl g s := by
  subst hsg; subst hso
  have e16 : (16 : Int32) * nI s = nI (16 * s) := by rw [show (16 : Int32) = nI 16 from rfl, pk_mul]
  have e8 : (8 : Int32) * nI g = nI (8 * g) := by rw [show (8 : Int32) = nI 8 from rfl, pk_mul]
  unfold f_MO_fold
  rw [e16]
  have h1 := rms_row (N := 70) (a := 16 * s) (c := 7) (fr := nI (16 * s)) (co := 7) th le lo da fl rfl rfl (by omega) (rms_nil tx) (by decide)
  generalize f_MO_addFrom 70 (nI (16 * s)) 7 th le lo da 0 tx fl = u1 at h1 ⊢
  unfold f_MO_fold_c1
  have h2 := rfin th le lo da wi nw vv aw_ hkc hbg h1 (by rw [List.length_append, rowL_len]; decide)
  have h20 := mo_hash0 th le lo da u1.1 kc bg u1.2 wi nw vv aw_
  generalize f_MO_hashText th le lo da u1.1 kc bg u1.2 wi nw vv aw_ = u2 at h2 h20 ⊢
  unfold f_MO_fold_c2
  rw [e8, h20]
  have h3 := rms_row (N := 16) (a := 8 * g) (c := 8) (fr := nI (8 * g)) (co := 8) th le lo da rg rfl rfl (by omega) (rms_nil u2.2.1) (by decide)
  generalize f_MO_addFrom 16 (nI (8 * g)) 8 th le lo da 0 u2.2.1 rg = u3 at h3 ⊢
  unfold f_MO_fold_c3
  have h4 := rms_row (N := 8) (a := 0) (c := 8) (fr := 0) (co := 8) th le lo da u2.2.2.2.2.2 rfl rfl (by decide) h3 (by rw [List.length_append, rowL_len]; decide)
  generalize f_MO_addFrom 8 0 8 th le lo da u3.1 u3.2 u2.2.2.2.2.2 = u4 at h4 ⊢
  unfold f_MO_fold_c4
  have h5 := rfin th le lo da u2.2.2.1 u2.2.2.2.1 u2.2.2.2.2.1 u2.2.2.2.2.2 hkc hbg h4 (by have := fldL_len rg g u2.2.2.2.2.2; unfold fldL at this; omega)
  generalize f_MO_hashText th le lo da u4.1 kc bg u4.2 u2.2.2.1 u2.2.2.2.1 u2.2.2.2.2.1 u2.2.2.2.2.2 = u5 at h5 ⊢
  unfold f_MO_fold_c5
  obtain ⟨G, g0, g1, g2⟩ := f49 g hg (nI s) th le lo da 0 kc bg tx wi nw vv aw_ fl rg 9 0 u5.1 u5.2.1 u5.2.2.1 u5.2.2.2.1 u5.2.2.2.2.1 u5.2.2.2.2.2 rg (by omega) (by omega)
  rw [show nI 0 = (0 : Int32) from rfl] at g0
  rw [g0]
  refine (cp8_of (G := G) g1 g2).trans ?_
  unfold fld
  refine cp8_congr _ _ (fun i hi => ?_)
  rw [h5, cp8_in0 _ _ _ hi]
  show dig (fldL rg g u2.2.2.2.2.2) i = _
  rw [h2, fld_cp]
  rfl

