/-! update, the end: class against reference. -/
theorem mw_eq (at0 wo th le lo da si : Int32) (fl : Nat → Int32) : f_MO_write at0 wo th le lo da si fl = f_MO_write at0 wo 0 le lo 0 0 fl := rfl
theorem clr7 (dl : Int32) (w : Nat → Int32) : ∀ (n k : Nat) (y0 : Int32) (y : Nat → Int32), k ≤ 6 → 6 - k < n → (∀ j, j < k → y j = 0) → ∃ z : Nat → Int32, f_DR_clear_7 dl w n (nI k) y0 y = (y0, z) ∧ ∀ j, j < 6 → z j = 0 := by
  intro n
  induction n with
  | zero => intro k y0 y _ h; exact absurd h (Nat.not_lt_zero _)
  | succ n ih =>
    intro k y0 y hk hn hy
    by_cases h : 6 ≤ k
    · rw [f_DR_clear_7, if_pos (by rw [le_lit (l := 6) (c := 6) rfl (by decide) (by omega)]; exact h)]
      exact ⟨y, rfl, fun j hj => hy j (by omega)⟩
    · rw [f_DR_clear_7, if_neg (by rw [le_lit (l := 6) (c := 6) rfl (by decide) (by omega)]; exact h), nI_1, nI_clamp (by omega)]
      refine ih (k + 1) y0 _ (by omega) (by omega) (fun j hj => ?_)
      by_cases q : j = k
      · rw [q]; exact pk_us
      · rw [pk_un q]; exact hy j (by omega)
theorem clr (dl : Int32) (w : Nat → Int32) : ∃ z : Nat → Int32, f_DR_clear dl w = (0, z) ∧ ∀ j, j < 6 → z j = 0 := clr7 dl w 7 0 0 w (by omega) (by omega) (fun j h => absurd h (Nat.not_lt_zero _))
theorem row7 (h : Int32) (d D : Nat → Int32) (f : Int32) : rowL (imW h d D f) 0 0 7 = [h] ++ rowL d 0 0 6 := by
  simp [rowL, List.range', imW]
theorem u118 {g s : Nat} (hs : s < 4) (ve fw_ th le lo da si : Int32) {kc bg : Nat → Int64} (tx wi nw vv : Nat → Int64) (aw_ dr fl rn rg : Nat → Int32) (Iw : Nat → Int32) : ∀ (m n i : Nat) (y05 y06 y011 : Int32) (y3 y4 y5 y6 : Nat → Int64) (y7 y9 y10 y11 : Nat → Int32), i + m = 7 → m < n → (∀ j, j < 7 → (y3 (4 + j)).toInt32 = Iw j) → ∃ rec, f_MO_update_118 (nI g) ve fw_ th le lo da si kc bg tx wi nw vv aw_ dr fl rn rg n (nI s) (nI i) 0 y05 y06 0 y011 y3 y4 y5 y6 y7 y9 y10 y11 = f_MO_update_c5 rec (nI g) ve fw_ th le lo da si kc bg tx wi nw vv aw_ dr fl rn rg (nI s) (nI 7) 0 (wch s Iw m i (y05, y06, y9)).1 (wch s Iw m i (y05, y06, y9)).2.1 0 y011 y3 y4 y5 y6 y7 (wch s Iw m i (y05, y06, y9)).2.2 y10 y11 (f_MO_write (nI (16 * s + 7)) 0 0 (wch s Iw m i (y05, y06, y9)).1 (wch s Iw m i (y05, y06, y9)).2.1 0 0 (wch s Iw m i (y05, y06, y9)).2.2) := by
  have e16 : (16 : Int32) * nI s = nI (16 * s) := by rw [show (16 : Int32) = nI 16 from rfl, pk_mul]
  intro m
  induction m with
  | zero =>
    intro n i y05 y06 y011 y3 y4 y5 y6 y7 y9 y10 y11 hi hn hI
    obtain ⟨n, rfl⟩ : ∃ k, n = k + 1 := ⟨n - 1, by omega⟩
    have hi7 : i = 7 := by omega
    subst hi7
    rw [f_MO_update_118, if_pos (by decide), e16, show (7 : Int32) = nI 7 from rfl, nI_add, mw_eq]
    exact ⟨_, rfl⟩
  | succ m ih =>
    intro n i y05 y06 y011 y3 y4 y5 y6 y7 y9 y10 y11 hi hn hI
    obtain ⟨n, rfl⟩ : ∃ k, n = k + 1 := ⟨n - 1, by omega⟩
    rw [f_MO_update_118, if_neg (by rw [le_lit (l := 7) (c := 7) rfl (by decide) (by omega)]; omega), e16, nI_add, show (4 : Int32) = nI 4 from rfl, nI_add, nI_clamp (by omega), hI i (by omega), mw_eq]
    unfold f_MO_update_c7
    rw [nI_1]
    rw [wch]
    exact ih n (i + 1) _ _ y011 y3 y4 y5 y6 y7 _ y10 y11 (by omega) (by omega) hI
theorem u173 {g s : Nat} (hs : s < 4) (ve fw_ th le lo da si : Int32) {kc bg : Nat → Int64} (tx wi nw vv : Nat → Int64) (aw_ dr fl rn rg : Nat → Int32) (Iw : Nat → Int32) : ∀ (m n i : Nat) (y05 y06 y011 : Int32) (y3 y4 y5 y6 : Nat → Int64) (y7 y9 y10 y11 : Nat → Int32), i + m = 8 → m < n → (∀ j, j < 7 → y7 j = Iw (8 + j)) → y7 7 ^^^ fw_ = Iw 15 → ∃ rec, f_MO_update_173 (nI g) ve fw_ th le lo da si kc bg tx wi nw vv aw_ dr fl rn rg n (nI s) (nI i) 0 y05 y06 0 y011 y3 y4 y5 y6 y7 y9 y10 y11 = (if (wch s Iw m (8 + i) (y05, y06, y9)).2.1 = 0 then f_MO_update_c8 rec (nI g) ve fw_ th le lo da si kc bg tx wi nw vv aw_ dr fl rn rg (nI s) (nI 8) 0 (wch s Iw m (8 + i) (y05, y06, y9)).1 (wch s Iw m (8 + i) (y05, y06, y9)).2.1 0 y011 y3 y4 y5 y6 y7 (wch s Iw m (8 + i) (y05, y06, y9)).2.2 y10 y11 (f_MO_writeState (f_MO_with (now (wch s Iw m (8 + i) (y05, y06, y9)).2.2) (nI g) (aP (f_MO_part (now (wch s Iw m (8 + i) (y05, y06, y9)).2.2) (nI g)) + 14)) 0 (wch s Iw m (8 + i) (y05, y06, y9)).1 (wch s Iw m (8 + i) (y05, y06, y9)).2.1 0 y011 (wch s Iw m (8 + i) (y05, y06, y9)).2.2) else f_MO_update_j261 rec (nI g) ve fw_ th le lo da si kc bg tx wi nw vv aw_ dr fl rn rg (nI s) 0 (wch s Iw m (8 + i) (y05, y06, y9)).1 (wch s Iw m (8 + i) (y05, y06, y9)).2.1 0 y011 y3 y4 y5 y6 y7 (wch s Iw m (8 + i) (y05, y06, y9)).2.2 y10 y11) := by
  have e16 : (16 : Int32) * nI s = nI (16 * s) := by rw [show (16 : Int32) = nI 16 from rfl, pk_mul]
  intro m
  induction m with
  | zero =>
    intro n i y05 y06 y011 y3 y4 y5 y6 y7 y9 y10 y11 hi hn hI hJ
    obtain ⟨n, rfl⟩ : ∃ k, n = k + 1 := ⟨n - 1, by omega⟩
    have hi8 : i = 8 := by omega
    subst hi8
    rw [f_MO_update_173, if_pos (by decide)]
    exact ⟨_, rfl⟩
  | succ m ih =>
    intro n i y05 y06 y011 y3 y4 y5 y6 y7 y9 y10 y11 hi hn hI hJ
    obtain ⟨n, rfl⟩ : ∃ k, n = k + 1 := ⟨n - 1, by omega⟩
    have e8 : nI (16 * s) + 8 + nI i = nI (16 * s + (8 + i)) := by rw [show (8 : Int32) = nI 8 from rfl, nI_add, nI_add, Nat.add_assoc]
    rw [f_MO_update_173, if_neg (by rw [le_lit (l := 8) (c := 8) rfl (by decide) (by omega)]; omega), e16, e8, nI_clamp (by omega)]
    unfold f_MO_update_j218
    by_cases q : i = 7
    · rw [if_pos (by rw [q]; decide), q, hJ, mw_eq]
      unfold f_MO_update_c11
      have := ih n (7 + 1) (f_MO_write (nI (16 * s + (8 + 7))) (Iw 15) 0 y05 y06 0 0 y9).1 (f_MO_write (nI (16 * s + (8 + 7))) (Iw 15) 0 y05 y06 0 0 y9).2.1 y011 y3 y4 y5 y6 y7 (f_MO_write (nI (16 * s + (8 + 7))) (Iw 15) 0 y05 y06 0 0 y9).2.2 y10 y11 (by omega) (by omega) hI hJ
      rw [nI_1, wch]
      exact this
    · rw [if_neg (by rw [show (7 : Int32) = nI 7 from rfl, nI_eq (by omega) (by decide)]; exact q), hI i (by omega), mw_eq]
      unfold f_MO_update_c11
      have := ih n (i + 1) (f_MO_write (nI (16 * s + (8 + i))) (Iw (8 + i)) 0 y05 y06 0 0 y9).1 (f_MO_write (nI (16 * s + (8 + i))) (Iw (8 + i)) 0 y05 y06 0 0 y9).2.1 y011 y3 y4 y5 y6 y7 (f_MO_write (nI (16 * s + (8 + i))) (Iw (8 + i)) 0 y05 y06 0 0 y9).2.2 y10 y11 (by omega) (by omega) hI hJ
      rw [nI_1, wch]
      exact this
/-- how an update ends in the reference -/
def ufin (s : Nat) (v : Int32 × Int32 × (Nat → Int32)) (rn rg : Nat → Int32) (r : Int32 × Int32 × Int32 × Int32 × Int32 × Int32 × (Nat → Int64) × (Nat → Int64) × (Nat → Int64) × (Nat → Int64) × (Nat → Int32) × (Nat → Int32) × (Nat → Int32) × (Nat → Int32)) : Prop := ∃ (tx wi nw vv : Nat → Int64) (aw_ : Nat → Int32), r = if v.2.1 = 0 then (nI s, 0, v.1, v.2.1, 0, 0, tx, wi, nw, vv, aw_, v.2.2, rn, rg) else (0, 2, v.1, v.2.1, 0, 0, tx, wi, nw, vv, aw_, v.2.2, off2 rn, zr 0 rg)
theorem u261 {g s : Nat} (rec : Int32 → Int32 → Int32 → Int32 → Int32 → Int32 → Int32 → (Nat → Int64) → (Nat → Int64) → (Nat → Int64) → (Nat → Int64) → (Nat → Int32) → (Nat → Int32) → (Nat → Int32) → (Nat → Int32) → Int32 × Int32 × Int32 × Int32 × Int32 × Int32 × (Nat → Int64) × (Nat → Int64) × (Nat → Int64) × (Nat → Int64) × (Nat → Int32) × (Nat → Int32) × (Nat → Int32) × (Nat → Int32)) (ve fw_ th le lo da si : Int32) {kc bg : Nat → Int64} (tx wi nw vv : Nat → Int64) (aw_ dr fl rn rg : Nat → Int32) (v : Int32 × Int32 × (Nat → Int32)) (y3 y4 y5 y6 : Nat → Int64) (y7 y10 y11 : Nat → Int32) : ufin s v y10 y11 (f_MO_update_j261 rec (nI g) ve fw_ th le lo da si kc bg tx wi nw vv aw_ dr fl rn rg (nI s) 0 v.1 v.2.1 0 0 y3 y4 y5 y6 y7 v.2.2 y10 y11) := by
  unfold f_MO_update_j261 ufin
  by_cases q : v.2.1 = 0
  · rw [if_pos q]
    exact ⟨y3, y4, y5, y6, y7, by rw [if_pos q]⟩
  · rw [if_neg q, moff]
    unfold f_MO_update_c9 f_MO_update_c10 f_MO_fail
    exact ⟨y3, y4, y5, y6, y7, by rw [if_neg q]⟩
theorem seal_at (sg : Int32) (f : Nat → Int32) {j : Nat} (hj : j < 7) : (sealL sg f 0).getD (4 + j) 0 = f j := by
  have h : j = 0 ∨ j = 1 ∨ j = 2 ∨ j = 3 ∨ j = 4 ∨ j = 5 ∨ j = 6 := by omega
  rcases h with rfl | rfl | rfl | rfl | rfl | rfl | rfl <;> rfl
theorem imW_lo {h : Int32} {d D D' : Nat → Int32} {f f' : Int32} {j : Nat} (hj : j < 7) : imW h d D f j = imW h d D' f' j := by
  unfold imW
  by_cases q : j = 0
  · rw [if_pos q, if_pos q]
  · rw [if_neg q, if_neg q, if_pos hj, if_pos hj]
theorem imW_hi {h : Int32} {d D : Nat → Int32} {f : Int32} {j : Nat} (hj : j < 7) : imW h d D f (8 + j) = D j := by
  unfold imW
  rw [if_neg (by omega), if_neg (by omega), if_neg (by omega), if_neg (by omega), show 8 + j - 8 = j by omega]
theorem u87 {g s d : Nat} (hg : g < 2) (hs : s < 4) (hd : d ≤ 24) (ve fw_ th le lo da si : Int32) {kc bg : Nat → Int64} (tx wi nw vv : Nat → Int64) (aw_ dr fl rn rg : Nat → Int32) (hkc : kcOk kc) (hbg : bgOk bg) (bt : Nat → Nat) (hz : ∀ i, d ≤ i → bt i = 0) (hb : ∀ i, i < d → dr i = nI (bt i)) (wl : Int32) (y3 y4 y5 y6 : Nat → Int64) (y7 y9 y10 y11 : Nat → Int32) (Iw : Nat → Int32) (hIw : Iw = imW (hdr (nI g) ve (nI d)) (fun j => nI (wd4 bt j)) (dig (sealL (nI g) (imW (hdr (nI g) ve (nI d)) (fun j => nI (wd4 bt j)) zA 0) 0)) fw_) (V : Int32 × Int32 × (Nat → Int32)) (hV : V = wch s Iw 16 0 (wl, 0, y9)) : ufin s (if V.2.1 = 0 then f_MO_writeState (f_MO_with (now V.2.2) (nI g) (aP (f_MO_part (now V.2.2) (nI g)) + 14)) 0 V.1 V.2.1 0 0 V.2.2 else V) y10 y11 (f_MO_update_j87 (nI g) ve fw_ th le lo da si kc bg tx wi nw vv aw_ dr fl rn rg (nI d) (nI s) 0 wl 0 0 0 y3 y4 y5 y6 y7 y9 y10 y11) := by
  unfold f_MO_update_j87
  rw [Int32.add_comm 1 (4 * nI g)]
  have h1 := rms_cnt (c := 4) (fi := 4 * nI g + 1) (co := 4) 0 wl 0 0 rfl (rms_nil y3) (by decide)
  generalize f_MO_addCount (4 * nI g + 1) 4 0 wl 0 0 0 y3 = u1 at h1 ⊢
  unfold f_MO_update_c2 f_MO_addBody
  have h2 := rms_add (hdr (nI g) ve (nI d)) 0 wl 0 0 h1 (by rw [List.length_append, cntL_len]; decide)
  unfold hdr at h2
  generalize f_MO_add (65536 * nI g + 256 * ve + nI d) 0 wl 0 0 u1.1 u1.2 = u2 at h2 ⊢
  have h3 := body20 (nI g) ve 0 wl 0 0 u1.1 u1.2 dr d hd bt hz hb 6 7 0 _ u2.1 u2.2 (by decide) (by decide) h2 (by rw [List.length_append, List.length_append, cntL_len]; show 0 + 4 + 1 + 6 ≤ 24; decide)
  rw [show nI 0 = (0 : Int32) from rfl] at h3
  generalize f_MO_addBody_20 (nI g) ve (nI d) 0 wl 0 0 u1.1 u1.2 dr 7 0 u2.1 u2.2 = u3 at h3 ⊢
  unfold f_MO_update_c3
  rw [Int32.add_comm 1 (4 * nI g)]
  have h4 := rms_cnt (c := 4) (fi := 4 * nI g + 1) (co := 4) 0 wl 0 0 rfl h3 (by rw [List.length_append, List.length_append, List.length_append, cntL_len, rowL_len]; show 0 + 4 + 1 + 6 + 4 ≤ 24; decide)
  generalize f_MO_addCount (4 * nI g + 1) 4 0 wl 0 0 u3.1 u3.2 = u4 at h4 ⊢
  unfold f_MO_update_c4
  have hL : rms (sealL (nI g) (imW (hdr (nI g) ve (nI d)) (fun j => nI (wd4 bt j)) zA 0) 0) u4.1 u4.2 := by
    have e : sealL (nI g) (imW (hdr (nI g) ve (nI d)) (fun j => nI (wd4 bt j)) zA 0) 0 = (([] ++ cntL (4 * nI g + 1) 0 4) ++ [65536 * nI g + 256 * ve + nI d]) ++ rowL (fun j => nI (wd4 bt j)) 0 0 6 ++ cntL (4 * nI g + 1) 0 4 := by
      unfold sealL
      rw [row7]
      unfold hdr
      simp only [List.append_assoc]
    rw [e]
    exact h4
  clear h1 h2 h3 h4
  have hlen := sealL_len (nI g) (imW (hdr (nI g) ve (nI d)) (fun j => nI (wd4 bt j)) zA 0) 0
  have htx : ∀ j, j < 7 → (u4.2 (4 + j)).toInt32 = Iw j := by
    intro j hj
    rw [hL.2 _ (by rw [hlen]; omega), ex_inv, seal_at _ _ hj, hIw]
    exact imW_lo hj
  obtain ⟨rec, e1⟩ := u118 (g := g) hs ve fw_ th le lo da si tx wi nw vv aw_ dr fl rn rg (kc := kc) (bg := bg) Iw 7 8 0 wl 0 u4.1 u4.2 y4 y5 y6 y7 y9 y10 y11 (by decide) (by decide) htx
  rw [show nI 0 = (0 : Int32) from rfl] at e1
  rw [e1]
  have w7 : Iw 7 = 0 := by rw [hIw]; rfl
  have e8 : f_MO_write (nI (16 * s + 7)) 0 0 (wch s Iw 7 0 (wl, 0, y9)).1 (wch s Iw 7 0 (wl, 0, y9)).2.1 0 0 (wch s Iw 7 0 (wl, 0, y9)).2.2 = wch s Iw 8 0 (wl, 0, y9) := by
    rw [show (8 : Nat) = 7 + 1 from rfl, wch_add s Iw 7 1 0]
    generalize wch s Iw 7 0 (wl, 0, y9) = v7
    rw [wch, wch, Nat.zero_add, w7]
  rw [e8]
  unfold f_MO_update_c5
  have k2 := rfin 0 (wch s Iw 8 0 (wl, 0, y9)).1 (wch s Iw 8 0 (wl, 0, y9)).2.1 0 y4 y5 y6 y7 hkc hbg hL (by rw [hlen]; decide)
  have k20 := mo_hash0 0 (wch s Iw 8 0 (wl, 0, y9)).1 (wch s Iw 8 0 (wl, 0, y9)).2.1 0 u4.1 kc bg u4.2 y4 y5 y6 y7
  have eV : V = wch s Iw 8 (8 + 0) (wch s Iw 8 0 (wl, 0, y9)) := by
    rw [hV, show (16 : Nat) = 8 + 8 from rfl, wch_add s Iw 8 8 0, Nat.zero_add]
  generalize wch s Iw 8 0 (wl, 0, y9) = V8 at k2 k20 eV ⊢
  generalize f_MO_hashText 0 V8.1 V8.2.1 0 u4.1 kc bg u4.2 y4 y5 y6 y7 = u6 at k2 k20 ⊢
  unfold f_MO_update_c6
  rw [k20]
  have hI : ∀ j, j < 7 → u6.2.2.2.2.2 j = Iw (8 + j) := by
    intro j hj
    rw [k2, cp8_in0 _ _ _ (by omega), hIw, imW_hi hj]
  have hJ : u6.2.2.2.2.2 7 ^^^ fw_ = Iw 15 := by
    rw [k2, cp8_in0 _ _ _ (by decide), hIw]
    rfl
  obtain ⟨rec2, e2⟩ := u173 (g := g) hs ve fw_ th le lo da si tx wi nw vv aw_ dr fl rn rg (kc := kc) (bg := bg) Iw 8 9 0 V8.1 V8.2.1 0 u6.2.1 u6.2.2.1 u6.2.2.2.1 u6.2.2.2.2.1 u6.2.2.2.2.2 V8.2.2 y10 y11 (by decide) (by decide) hI hJ
  rw [show nI 0 = (0 : Int32) from rfl, show (V8.1, V8.2.1, V8.2.2) = V8 from rfl, ← eV] at e2
  rw [e2]
  clear e1 e2 eV hV
  by_cases q : V.2.1 = 0
  · rw [if_pos q, if_pos q]
    unfold f_MO_update_c8
    exact u261 (g := g) (s := s) rec2 ve fw_ th le lo da si tx wi nw vv aw_ dr fl rn rg (kc := kc) (bg := bg) _ _ _ _ _ _ y10 y11
  · rw [if_neg q, if_neg q]
    exact u261 (g := g) (s := s) rec2 ve fw_ th le lo da si tx wi nw vv aw_ dr fl rn rg (kc := kc) (bg := bg) V _ _ _ _ _ y10 y11
/-- what update leaves on both sides -/
def UOut (c : Nat × Int32 × Int32 × (Nat → Int32) × Int32 × (Nat → Int32) × (Nat → Int32) × Int32 × (Nat → Int32) × (Nat → Int32) × (Nat → Int32) × (Nat → Int32) × (Nat → Int32) × (Nat → Int32)) (r : Int32 × Int32 × Int32 × Int32 × Int32 × Int32 × (Nat → Int64) × (Nat → Int64) × (Nat → Int64) × (Nat → Int64) × (Nat → Int32) × (Nat → Int32) × (Nat → Int32) × (Nat → Int32)) : Prop :=
  ∃ (k : Nat) (an wl : Int32) (fw dw z6 : Nat → Int32) (z7 : Int32) (z8 z9 z10 ru rg z13 : Nat → Int32) (bn th lo : Int32) (tx wi nw vv : Nat → Int64) (aw_ rn : Nat → Int32), c = (k, an, wl, fw, 0, dw, z6, z7, z8, z9, z10, ru, rg, z13) ∧ r = (bn, th, wl, lo, 0, 0, tx, wi, nw, vv, aw_, fw, rn, rg) ∧ ((k = 0 ∧ th = 0 ∧ an = bn) ∨ (k = 1 ∧ th = 1) ∨ (k = 2 ∧ th = 2)) ∧ lef wl ∧ runR ru rn ∧ ∀ j, j < 6 → dw j = 0
theorem ver_iff {ve : Int32} : f_MO_out ve 256 = 0 ↔ (¬ ve < 0 ∧ ¬ 255 < ve) := by
  rw [out_iff]
  constructor
  · intro z
    refine ⟨z.1, fun q => ?_⟩
    obtain ⟨j, hj, rfl⟩ := nI_of z.1
    have h1 := z.2
    rw [show (256 : Int32) = nI 256 from rfl, nI_ltI hj (by decide)] at h1
    rw [show (255 : Int32) = nI 255 from rfl, nI_ltI (by decide) hj] at q
    omega
  · intro z
    refine ⟨z.1, ?_⟩
    obtain ⟨j, hj, rfl⟩ := nI_of z.1
    have h1 := z.2
    rw [show (255 : Int32) = nI 255 from rfl, nI_ltI (by decide) hj] at h1
    rw [show (256 : Int32) = nI 256 from rfl, nI_ltI hj (by decide)]
    omega
/-- the class, from the writing of the image on -/
theorem c91 {g s : Nat} (hg : g < 2) (hs : s < 4) (ve fw_ wl0 : Int32) (fw0 : Nat → Int32) (dl : Int32) (dw iw : Nat → Int32) (sl : Int32) (ms sc ch ru0 rg0 hh : Nat → Int32) (st : Int32) (wl : Int32) (fw : Nat → Int32) (z : Nat → Int32) (y6 : Nat → Int32) (y7 : Int32) (y8 y9 y10 ru rg y13 rn : Nat → Int32) (Iw : Nat → Int32) (hl : lef wl) (hst : st = now fw) (hI : ∀ i, i < 16 → y6 i = Iw i) (hz : ∀ j, j < 6 → z j = 0) (hr : runR ru rn) (V : Int32 × Int32 × (Nat → Int32)) (hV : V = wch s Iw 16 0 (wl, 0, fw)) (r : Int32 × Int32 × Int32 × Int32 × Int32 × Int32 × (Nat → Int64) × (Nat → Int64) × (Nat → Int64) × (Nat → Int64) × (Nat → Int32) × (Nat → Int32) × (Nat → Int32) × (Nat → Int32)) (hu : ufin s (if V.2.1 = 0 then f_MO_writeState (f_MO_with (now V.2.2) (nI g) (aP (f_MO_part (now V.2.2) (nI g)) + 14)) 0 V.1 V.2.1 0 0 V.2.2 else V) rn rg r) : UOut (f_BC_update_j91 (nI g) ve fw_ wl0 fw0 dl dw iw sl ms sc ch ru0 rg0 hh st (nI s) wl fw 0 z y6 y7 y8 y9 y10 ru rg y13) r := by
  unfold f_BC_update_j91 f_IM_writeTo
  obtain ⟨k1, k2⟩ := cwrite hs y6 wl fw 16 17 0 wl fw (by decide) (by decide) hl
  rw [show nI 0 = (0 : Int32) from rfl] at k1 k2
  rw [wch_congr s 16 0 _ (fun j _ hj => hI j (by omega)), ← hV] at k1
  have hno : ∀ j, 64 ≤ j → V.2.2 j = fw j := fun j hj => by rw [hV, wch_out hs Iw 16 0 _ j (by decide) hj]
  have hnow : now V.2.2 = now fw := now_congr (fun j a _ => hno j a)
  clear hV
  generalize f_IM_writeTo_2 (nI s) y6 wl fw 17 0 wl fw = u at k1 k2 ⊢
  unfold f_BC_update_c4
  obtain ⟨tx, wi, nw, vv, aw_, hr2⟩ := hu
  by_cases q : u.1 = 0
  · rw [if_pos q]
    rw [wrt_0 q k2] at k1
    subst k1
    rw [if_neg (show ¬ (((0 : Int32), (1 : Int32), u.2.2) : Int32 × Int32 × (Nat → Int32)).2.1 = 0 from one0)] at hr2
    rw [if_neg (show ¬ (((0 : Int32), (1 : Int32), u.2.2) : Int32 × Int32 × (Nat → Int32)).2.1 = 0 from one0)] at hr2
    unfold f_BC_update_j128 f_BC_update_c6
    rw [toff, k2.2.1 q]
    exact ⟨_, _, _, _, _, _, _, _, _, _, _, _, _, _, _, _, _, _, _, _, _, _, rfl, hr2, Or.inr (Or.inr ⟨rfl, rfl⟩), ⟨by decide, by decide⟩, run_off _ _, hz⟩
  · rw [if_neg q]
    rw [wrt_1 q] at k1
    subst k1
    rw [if_pos (show ((u.2.1, (0 : Int32), u.2.2) : Int32 × Int32 × (Nat → Int32)).2.1 = 0 from rfl), hnow, ← B6' (st2 hg), ← hst] at hr2
    obtain ⟨m1, m2⟩ := rec_rel (st := f_SB_withTrial st (nI g) 3) (th := 0) (da := 0) (si := 0) (w := u.2.2) k2.2.2
    dsimp only at hr2
    rw [m1] at hr2
    generalize f_FL_writeRecord (f_SB_withTrial st (nI g) 3) u.2.1 u.2.2 = w at m2 hr2 ⊢
    unfold f_BC_update_c5
    by_cases q2 : w.1 = 0
    · rw [if_pos q2]
      rw [wrt_0 q2 m2, if_neg (show ¬ (((0 : Int32), (1 : Int32), w.2.2) : Int32 × Int32 × (Nat → Int32)).2.1 = 0 from one0)] at hr2
      unfold f_BC_update_j128 f_BC_update_c6
      rw [toff, m2.2.1 q2]
      exact ⟨_, _, _, _, _, _, _, _, _, _, _, _, _, _, _, _, _, _, _, _, _, _, rfl, hr2, Or.inr (Or.inr ⟨rfl, rfl⟩), ⟨by decide, by decide⟩, run_off _ _, hz⟩
    · rw [if_neg q2]
      rw [wrt_1 q2, if_pos (show ((w.2.1, (0 : Int32), w.2.2) : Int32 × Int32 × (Nat → Int32)).2.1 = 0 from rfl)] at hr2
      exact ⟨_, _, _, _, _, _, _, _, _, _, _, _, _, _, _, _, _, _, _, _, _, _, rfl, hr2, Or.inl ⟨rfl, rfl, rfl⟩, m2.2.2, hr, hz⟩
theorem update_bad (sg ve fw_ : Int32) (wl : Int32) (fw : Nat → Int32) (dl : Int32) (dw iw : Nat → Int32) (sl : Int32) (ms sc ch ru rg hh : Nat → Int32) (th le lo da si : Int32) (kc bg tx wi nw vv : Nat → Int64) (aw_ dr fl rn rg0 : Nat → Int32) (lo' : Int32) (x4 : Int32) (hl : lef wl) (hr : runR ru rn) : UOut (f_BC_update_j23 sg ve fw_ wl fw dl dw iw sl ms sc ch ru rg hh 0 wl fw dl dw iw sl ms sc ch ru rg hh) (f_MO_update_j35 sg ve fw_ th le lo da si kc bg tx wi nw vv aw_ dr fl rn rg0 x4 1 th wl lo' 0 0 tx wi nw vv aw_ fw rn rg) := by
  unfold f_BC_update_j23 f_MO_update_j35
  rw [if_pos rfl, if_neg (by decide)]
  unfold f_BC_update_j37
  obtain ⟨z, e, hz⟩ := clr dl dw
  rw [e]
  unfold f_BC_update_c2
  rw [if_pos rfl]
  exact ⟨_, _, _, _, _, _, _, _, _, _, _, _, _, _, _, _, _, _, _, _, _, _, rfl, rfl, Or.inr (Or.inl ⟨rfl, rfl⟩), hl, hr, hz⟩
theorem update_rel (sg ve fw_ wl : Int32) (fw : Nat → Int32) (dl : Int32) (dw iw : Nat → Int32) (sl : Int32) (ms sc ch ru rg hh : Nat → Int32) (th lo da : Int32) {kc bg : Nat → Int64} (tx wi nw vv : Nat → Int64) (aw_ dr rn : Nat → Int32) (hkc : kcOk kc) (hbg : bgOk bg) (hl : lef wl) (hr : runR ru rn) (hd : draftR dl da dw dr) : UOut (f_BC_update sg ve fw_ wl fw dl dw iw sl ms sc ch ru rg hh) (f_MO_update sg ve fw_ th wl lo da 0 kc bg tx wi nw vv aw_ dr fw rn rg) := by
  unfold f_BC_update f_MO_update
  by_cases c1 : f_MO_out sg 2 = 0
  · rw [if_neg (fun z => stage_iff.mp z c1), if_pos c1]
    by_cases c2 : f_MO_out ve 256 = 0
    · rw [if_neg (ver_iff.mp c2).1, if_neg (ver_iff.mp c2).2, if_pos c2]
      obtain ⟨g, hg, rfl⟩ : ∃ g : Nat, g < 2 ∧ sg = nI g := by
        rcases out2 c1 with e | e
        · exact ⟨0, by decide, e⟩
        · exact ⟨1, by decide, e⟩
      obtain ⟨d, bt, d1, d2, d3, d4, d5, d6, d7⟩ := hd
      subst d2; subst d3
      obtain ⟨a, h1, ha⟩ := a_of (st := now fw) (sg := nI g) (st2 hg)
      have hs : 2 * g + (1 - a) < 4 := by omega
      unfold f_BC_update_j23
      rw [if_neg one0]
      have him := cimage (nI g) ve fw_ (nI d) dw iw sl ms sc ch hh
      generalize f_BC_composeImage (nI g) ve fw_ (nI d) dw iw sl ms sc ch hh = u1 at him ⊢
      unfold f_BC_update_c1 f_BC_update_j37
      obtain ⟨z, e, hz⟩ := clr (nI d) dw
      rw [e]
      unfold f_BC_update_c2
      rw [if_neg one0, hst_now, oth_is hg h1 ha, nI_clamp (by omega)]
      -- the image is the same on both sides
      have hI : ∀ i, i < 16 → u1.1 i = imW (hdr (nI g) ve (nI d)) (fun j => nI (wd4 bt j)) (dig (sealL (nI g) (imW (hdr (nI g) ve (nI d)) (fun j => nI (wd4 bt j)) zA 0) 0)) fw_ i := by
        intro i hi
        rw [him i hi]
        have e1 : ∀ (D : Nat → Int32) (f : Int32) (j : Nat), imW (hdr (nI g) ve (nI d)) dw D f j = imW (hdr (nI g) ve (nI d)) (fun j => nI (wd4 bt j)) D f j := by
          intro D f j
          unfold imW
          by_cases q : j = 0
          · rw [if_pos q, if_pos q]
          · rw [if_neg q, if_neg q]
            by_cases q2 : j < 7
            · rw [if_pos q2, if_pos q2, d7 (j - 1) (by omega)]
            · rw [if_neg q2, if_neg q2]
        rw [e1, sealL_congr (sg := nI g) (rr := imW (hdr (nI g) ve (nI d)) dw zA 0) (rr' := imW (hdr (nI g) ve (nI d)) (fun j => nI (wd4 bt j)) zA 0) (a := 0) (a' := 0) (fun j _ => e1 _ _ _)]
      have eso : (2 : Int32) * nI g + 1 - (f_MO_part (now fw) (nI g) - f_MO_part (now fw) (nI g) / 2 * 2) = nI (2 * g + (1 - a)) := by
        have : f_MO_part (now fw) (nI g) - f_MO_part (now fw) (nI g) / 2 * 2 = nI a := ha
        rw [this, show (2 : Int32) = nI 2 from rfl, pk_mul, nI_1, pk_sub (by omega)]
        congr 1
        omega
      have emod : nI (2 * g + (1 - a)) - nI (2 * g + (1 - a)) / 2 * 2 = nI (1 - a) := by
        rw [show (2 : Int32) = nI 2 from rfl, pk_rem (by omega) (by decide) (by decide)]
        congr 1
        omega
      have hcond : ru g = nI (2 * g + (1 - a)) ↔ rn g = nI (1 - a) := by
        have h3 : run1 g ru rn := by
          have : g = 0 ∨ g = 1 := by omega
          rcases this with rfl | rfl
          · exact hr.1
          · exact hr.2
        rcases h3 with ⟨p1, p2⟩ | ⟨x, hx, p1, p2⟩
        · rw [p1, p2]
          have hp : ∀ k : Nat, k < 4 → ¬ (-1 : Int32) = nI k := by
            intro k hk z
            have := nI_pos' (n := k) (by omega)
            rw [← z] at this
            exact absurd this (by decide)
          exact ⟨fun z => absurd z (hp _ hs), fun z => absurd z (hp _ (by omega))⟩
        · rw [p1, p2, nI_eq (by omega) (by omega), nI_eq (by omega) (by omega)]; omega
      unfold f_MO_update_j35
      rw [if_pos (show (0 : Int32) ≤ 0 by decide), show f_MO_stateNow 0 wl 0 0 0 fw = now fw from rfl, eso, emod, nI_clamp (by omega)]
      by_cases q : rn g = nI (1 - a)
      · rw [if_pos q, if_pos (hcond.mpr q), toff, moff]
        unfold f_BC_update_c3 f_MO_update_c1
        rw [hst_now, oth_is hg h1 ha, show f_MO_stateNow 0 wl 0 0 0 fw = now fw from rfl, eso]
        exact c91 hg hs ve fw_ wl fw (nI d) dw iw sl ms sc ch ru rg hh (now fw) wl fw z u1.1 _ _ _ _ (off2 ru) (zr 0 rg) _ (off2 rn) _ hl rfl hI hz (run_off _ _) _ rfl _ (u87 hg hs d1 ve fw_ th wl lo (nI d) 0 tx wi nw vv aw_ dr fw rn rg hkc hbg bt d5 d6 wl tx wi nw vv aw_ fw (off2 rn) (zr 0 rg) _ rfl _ rfl)
      · rw [if_neg q, if_neg (fun z => q (hcond.mp z))]
        exact c91 hg hs ve fw_ wl fw (nI d) dw iw sl ms sc ch ru rg hh (now fw) wl fw z u1.1 _ _ _ _ ru rg _ rn _ hl rfl hI hz hr _ rfl _ (u87 hg hs d1 ve fw_ th wl lo (nI d) 0 tx wi nw vv aw_ dr fw rn rg hkc hbg bt d5 d6 wl tx wi nw vv aw_ fw rn rg _ rfl _ rfl)
    · rw [if_neg c2]
      have hb : ve < 0 ∨ 255 < ve := by
        by_cases q : ve < 0
        · exact Or.inl q
        · exact Or.inr (Classical.byContradiction fun z => c2 (ver_iff.mpr ⟨q, z⟩))
      rcases hb with q | q
      · rw [if_pos q]
        exact update_bad sg ve fw_ wl fw dl dw iw sl ms sc ch ru rg hh th wl lo da 0 kc bg tx wi nw vv aw_ dr fw rn rg lo da hl hr
      · rw [if_pos q, ite_self]
        exact update_bad sg ve fw_ wl fw dl dw iw sl ms sc ch ru rg hh th wl lo da 0 kc bg tx wi nw vv aw_ dr fw rn rg lo da hl hr
  · rw [if_pos (stage_iff.mpr c1), if_neg c1]
    exact update_bad sg ve fw_ wl fw dl dw iw sl ms sc ch ru rg hh th wl lo da 0 kc bg tx wi nw vv aw_ dr fw rn rg lo da hl hr

