/-! Good images, class against reference. -/
theorem ju16 (x : Int32) : ju x 16 &&& 65535 = ju x 16 := by
  apply Int32.toBitVec_inj.mp
  rw [Int32.toBitVec_and, ju_bv x 16 16 (by decide) (by decide)]
  apply BitVec.eq_of_getLsbD_eq
  intro i hi
  rw [BitVec.getLsbD_and, BitVec.getLsbD_ushiftRight]
  by_cases h : i < 16
  · have : (Int32.toBitVec 65535).getLsbD i = true := by
      have h2 : ∀ i : Fin 16, (Int32.toBitVec 65535).getLsbD i.val = true := by decide
      exact h2 ⟨i, h⟩
    rw [this, Bool.and_true]
  · rw [BitVec.getLsbD_of_ge _ _ (by omega), Bool.false_and]
theorem h16_eq (x : Int32) : (x >>> ((16 : Int32) &&& 31)) &&& 65535 = ju x 16 := by
  rw [← ju_sr x 16 ((16 : Int32) &&& 31) 65535 16 (by decide) (by decide) (by decide) (by decide), ju16]
theorem ver_eq (x : Int32) : (x >>> ((8 : Int32) &&& 31)) &&& 255 = f_IM_versionToldBy x := by
  unfold f_IM_versionToldBy
  rw [← ju_sr x 8 ((8 : Int32) &&& 31) 255 8 (by decide) (by decide) (by decide) (by decide)]
theorem z01 {x y : Int32} (hx : x = 0 ∨ x = 1) (hy : y = 0 ∨ y = 1) (h : x = 1 ↔ y = 1) : x = y := by
  rcases hx with rfl | rfl
  · rcases hy with rfl | rfl
    · rfl
    · exact absurd (h.mpr rfl) (by decide)
  · exact (h.mp rfl).symm
theorem g156_01 (so th le lo da si : Int32) (kc bg tx wi nw vv : Nat → Int64) (aw_ fl cn : Nat → Int32) (x2 y0 : Int32) (y3 y4 y5 y6 : Nat → Int64) (y7 : Nat → Int32) : ∀ (n : Nat) (x5 x6 : Int32), (x5 = 0 ∨ x5 = 1) → ((f_MO_good_156 so th le lo da si kc bg tx wi nw vv aw_ fl cn n x2 x5 x6 y0 y3 y4 y5 y6 y7).1 = 0 ∨ (f_MO_good_156 so th le lo da si kc bg tx wi nw vv aw_ fl cn n x2 x5 x6 y0 y3 y4 y5 y6 y7).1 = 1) := by
  intro n
  induction n with
  | zero => intro x5 x6 _; exact Or.inl rfl
  | succ n ih =>
    intro x5 x6 h
    rw [f_MO_good_156]
    split
    · exact h
    · split
      · exact ih _ _ (Or.inl rfl)
      · split
        · exact ih _ _ (Or.inr rfl)
        · exact ih _ _ (Or.inl rfl)
theorem c1_rel {s : Nat} (hs : s < 4) (sg th le lo da : Int32) {kc bg : Nat → Int64} (tx wi nw vv : Nat → Int64) (aw_ fl cn w hh : Nat → Int32) (hkc : kcOk kc) (hbg : bgOk bg) (hw : ∀ j, j < 16 → w j = fl (16 * s + j)) (rec : Int32 → Int32 → Int32 → Int32 → Int32 → (Nat → Int64) → (Nat → Int64) → (Nat → Int64) → (Nat → Int64) → (Nat → Int32) → Int32 × Int32 × (Nat → Int64) × (Nat → Int64) × (Nat → Int64) × (Nat → Int64) × (Nat → Int32)) (sl : Int32) (ms sc ch : Nat → Int32) : (f_MO_good_c1 rec (nI s) th le lo da 0 kc bg tx wi nw vv aw_ fl cn (nI (16 * s)) sg 1 0 tx wi nw vv aw_ (f_MO_seal 70 (nI (16 * s)) sg th le lo da 0 kc bg tx wi nw vv aw_ fl)).1 = f_IM_bears w (f_IM_sealInto sg w hh sl ms sc ch).1 := by
  have hu := rseal 70 (16 * s) (by omega) sg th le lo da tx wi nw vv aw_ fl hkc hbg
  rw [cseal]
  generalize f_MO_seal 70 (nI (16 * s)) sg th le lo da 0 kc bg tx wi nw vv aw_ fl = u at hu ⊢
  unfold f_MO_good_c1
  refine z01 (g156_01 _ _ _ _ _ _ _ _ _ _ _ _ _ _ _ _ _ _ _ _ _ _ _ _ _ (Or.inr rfl)) (p_bears _ _) ?_
  have h1 := g156_iff (nI s) th le lo da 0 kc bg tx wi nw vv aw_ fl cn (16 * s) (by omega) u.1 u.2.1 u.2.2.1 u.2.2.2.1 u.2.2.2.2.1 u.2.2.2.2.2 9 0 (by omega) (by omega)
  have h2 := bears_iff w (cp8 hh 0 (dig (sealL sg w 0))) 9 0 (by omega) (by omega)
  refine h1.trans (Iff.trans ?_ h2.symm)
  rw [hu, sealL_congr (sg := sg) (rr := w) (rr' := fl) (a := 0) (a' := 16 * s) (fun i hi => by rw [Nat.zero_add]; exact hw i (by omega))]
  constructor
  · intro z i a c
    have := z i a c
    rw [cp8_in0 _ _ _ c] at this ⊢
    rw [this, hw _ (by omega), Nat.add_assoc]
  · intro z i a c
    have := z i a c
    rw [cp8_in0 _ _ _ c] at this ⊢
    rw [← this, hw _ (by omega), Nat.add_assoc]
theorem good_rel {s : Nat} (hs : s < 4) {sg : Int32} (hsg : sg = nI (s / 2)) (th le lo da : Int32) {kc bg : Nat → Int64} (tx wi nw vv : Nat → Int64) (aw_ fl cn : Nat → Int32) (hkc : kcOk kc) (hbg : bgOk bg) (wl : Int32) (iw : Nat → Int32) (sl : Int32) (ms sc ch hh : Nat → Int32) : (f_BC_isGood (nI s) sg wl fl iw sl ms sc ch cn hh).1 = (f_MO_good (nI s) th le lo da 0 kc bg tx wi nw vv aw_ fl cn).1 := by
  have hw := load_at hs iw wl fl
  unfold f_BC_isGood f_BC_isGood_c1
  generalize f_IM_load (nI s) iw wl fl = w at hw ⊢
  unfold f_MO_good f_IM_hasFormOf f_MO_versionOf f_IM_version
  have e16 : (16 : Int32) * nI s = nI (16 * s) := by rw [show (16 : Int32) = nI 16 from rfl, pk_mul]
  have e7 : nI (16 * s) + 7 = nI (16 * s + 7) := by rw [show (7 : Int32) = nI 7 from rfl, nI_add]
  have e2 : nI s / 2 = sg := by rw [show (2 : Int32) = nI 2 from rfl, pk_div (by omega) (by decide) (by decide), hsg]
  have w0 : w ((0 : Int32)).toNatClampNeg = fl (16 * s) := hw 0 (by decide)
  have w7 : w ((7 : Int32)).toNatClampNeg = fl (16 * s + 7) := hw 7 (by decide)
  rw [e16, e7, e2, nI_clamp (by omega), nI_clamp (by omega), w0, w7, h16_eq, ver_eq]
  by_cases c1 : ju (fl (16 * s)) 16 = sg
  · rw [if_pos c1, if_pos c1]
    by_cases c2 : 24 < fl (16 * s) &&& 255
    · rw [if_pos c2, if_pos c2, if_pos rfl, good0]
    · rw [if_neg c2, if_neg c2]
      obtain ⟨k, hk, hk2⟩ : ∃ k : Nat, k ≤ 24 ∧ fl (16 * s) &&& 255 = nI k := by
        have := hz_of c2
        obtain ⟨k, hk, e⟩ := sm_nI 24 this.1 this.2 rfl (by decide)
        exact ⟨k, hk, e⟩
      rw [hk2]
      by_cases c3 : fl (16 * s + 7) = 0
      · rw [if_pos c3, if_pos c3]
        by_cases c4 : f_IM_versionToldBy (fl (16 * s)) < cn sg.toNatClampNeg
        · have c4' : ¬ cn sg.toNatClampNeg ≤ f_IM_versionToldBy (fl (16 * s)) := Int32.not_le.mpr c4
          rw [if_pos c4, good0, if_neg c4']
          split
          · rfl
          · rfl
        · have c4' : cn sg.toNatClampNeg ≤ f_IM_versionToldBy (fl (16 * s)) := Int32.not_lt.mp c4
          rw [if_neg c4, if_pos c4', good81 hs th le lo da 0 kc bg tx wi nw vv aw_ fl cn w (nI k) hw sg 0 tx wi nw vv aw_ _ rfl 25 k hk (by omega)]
          unfold f_IM_hasZerosBehind
          by_cases c5 : f_IM_hasZerosBehind_2 (nI k) w 25 (nI k) = 0
          · rw [if_pos c5, if_pos c5, if_pos rfl]
          · rw [if_neg c5, if_neg c5, if_neg one0]
            rw [c1_rel hs sg th le lo da tx wi nw vv aw_ fl cn w hh hkc hbg hw _ sl ms sc ch]
      · rw [if_neg c3, if_neg c3, good0, ite_self, if_pos rfl]
  · rw [if_neg c1, if_neg c1, if_pos rfl, good0]

