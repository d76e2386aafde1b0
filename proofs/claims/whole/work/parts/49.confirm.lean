/-! confirm: class against reference. -/
def flp (g : Nat) (st : Int32) (ru : Nat → Int32) : Prop := ¬ f_SB_onTrial st (nI g) = 0 ∧ ru g = f_SB_otherSlot st (nI g)
theorem ccf_y {g : Nat} (hg : g < 2) {st : Int32} {ru : Nat → Int32} (n : Nat) (X : Int32) (h : flp g st ru) : f_BC_confirmTrials_4 st ru (n + 1) X (nI g) = f_BC_confirmTrials_4 st ru n (f_SB_withOtherActive X (nI g)) (nI (g + 1)) := by
  rw [f_BC_confirmTrials_4, if_neg (by rw [le_lit (l := 2) (c := 2) rfl (by decide) (by omega)]; omega), nI_clamp (by omega), if_pos h.2]
  unfold f_BC_confirmTrials_j28
  rw [if_neg one0, if_neg h.1, nI_1]
theorem ccf_n {g : Nat} (hg : g < 2) {st : Int32} {ru : Nat → Int32} (n : Nat) (X : Int32) (h : ¬ flp g st ru) : f_BC_confirmTrials_4 st ru (n + 1) X (nI g) = f_BC_confirmTrials_4 st ru n X (nI (g + 1)) := by
  rw [f_BC_confirmTrials_4, if_neg (by rw [le_lit (l := 2) (c := 2) rfl (by decide) (by omega)]; omega), nI_clamp (by omega)]
  unfold f_BC_confirmTrials_j28
  rw [nI_1]
  by_cases q : ru g = f_SB_otherSlot st (nI g)
  · rw [if_pos q, if_neg one0, if_pos (Classical.byContradiction fun z => h ⟨z, q⟩)]
  · rw [if_neg q, if_pos rfl]
theorem ccf_e {st : Int32} {ru : Nat → Int32} (n : Nat) (X : Int32) : f_BC_confirmTrials_4 st ru (n + 1) X (nI 2) = X := by
  rw [f_BC_confirmTrials_4, if_pos (by decide)]
/-- when a stage's running slot is the one on trial, said by the reference -/
theorem flp_iff {g x a : Nat} (hg : g < 2) (hx : x ≤ 1) (h1 : a ≤ 1) {st : Int32} {ru : Nat → Int32} (hu : ru g = nI (2 * g + x)) (ha : aP (f_MO_part st (nI g)) = nI a) : flp g st ru ↔ (tP (f_MO_part st (nI g)) = 1 ∧ ¬ nI x = aP (f_MO_part st (nI g))) := by
  unfold flp
  rw [B3 (st2 hg), hu, oth_is hg h1 ha, ha, nI_eq (by omega) (by omega), nI_eq (by omega) (by omega)]
  constructor
  · intro z; exact ⟨Classical.byContradiction z.1, by omega⟩
  · intro z; exact ⟨fun q => q z.1, by omega⟩
theorem rcf_y {g x : Nat} (hg : g < 2) (th le lo da si : Int32) (fl cn rn rg : Nat → Int32) (n : Nat) (X any : Int32) (y0 y5 y6 : Int32) (y1 y2 y3 y4 : Nat → Int32) (hy : y3 g = nI x) (h : tP (f_MO_part X (nI g)) = 1 ∧ ¬ nI x = aP (f_MO_part X (nI g))) : f_MO_confirm_38 th le lo da si fl cn rn rg (n + 1) X any (nI g) y0 y5 y6 y1 y2 y3 y4 = f_MO_confirm_38 th le lo da si fl cn rn rg n (f_MO_with X (nI g) (nI x)) 1 (nI (g + 1)) y0 y5 y6 y1 y2 y3 y4 := by
  have q1 : f_MO_part X (nI g) / 2 - f_MO_part X (nI g) / 2 / 2 * 2 = 1 := h.1
  have q2 : ¬ nI x = f_MO_part X (nI g) - f_MO_part X (nI g) / 2 * 2 := h.2
  rw [f_MO_confirm_38, if_neg (by rw [le_lit (l := 2) (c := 2) rfl (by decide) (by omega)]; omega), if_pos q1, nI_clamp (by omega), hy, if_neg q2]
  unfold f_MO_confirm_j78
  rw [if_neg one0, if_neg one0, ite_self, nI_1, nI_clamp (by omega), hy]
theorem rcf_n {g x : Nat} (hg : g < 2) (th le lo da si : Int32) (fl cn rn rg : Nat → Int32) (n : Nat) (X any : Int32) (hany : any = 0 ∨ any = 1) (y0 y5 y6 : Int32) (y1 y2 y3 y4 : Nat → Int32) (hy : y3 g = nI x) (h : ¬ (tP (f_MO_part X (nI g)) = 1 ∧ ¬ nI x = aP (f_MO_part X (nI g)))) : f_MO_confirm_38 th le lo da si fl cn rn rg (n + 1) X any (nI g) y0 y5 y6 y1 y2 y3 y4 = f_MO_confirm_38 th le lo da si fl cn rn rg n X any (nI (g + 1)) y0 y5 y6 y1 y2 y3 y4 := by
  have e : f_MO_confirm_j78 (f_MO_confirm_38 th le lo da si fl cn rn rg n) th le lo da si fl cn rn rg X any (nI g) 0 y0 y5 y6 y1 y2 y3 y4 = f_MO_confirm_38 th le lo da si fl cn rn rg n X any (nI (g + 1)) y0 y5 y6 y1 y2 y3 y4 := by
    unfold f_MO_confirm_j78
    rw [if_pos rfl, if_pos rfl, nI_1]
    rcases hany with rfl | rfl
    · rw [if_pos rfl]
    · rw [if_neg one0]
  rw [f_MO_confirm_38, if_neg (by rw [le_lit (l := 2) (c := 2) rfl (by decide) (by omega)]; omega)]
  by_cases q1 : f_MO_part X (nI g) / 2 - f_MO_part X (nI g) / 2 / 2 * 2 = 1
  · rw [if_pos q1, nI_clamp (by omega), hy, if_pos (show nI x = f_MO_part X (nI g) - f_MO_part X (nI g) / 2 * 2 from Classical.byContradiction fun z => h ⟨q1, z⟩)]
    exact e
  · rw [if_neg q1]
    exact e
theorem upd_self (f : Nat → Int32) (k : Nat) : upd f k (f k) = f := by
  funext j
  unfold upd
  by_cases h : j = k
  · rw [if_pos h, h]
  · rw [if_neg h]
theorem raise_rel {x0 x1 : Nat} (h0 : x0 ≤ 1) (h1 : x1 ≤ 1) (wl : Int32) (fw ru cn : Nat → Int32) (th le lo da si : Int32) (fl2 cn2 rn2 rg2 : Nat → Int32) (y0 y5 y6 : Int32) (rn rg : Nat → Int32) (u0 : ru 0 = nI (2 * 0 + x0)) (u1 : ru 1 = nI (2 * 1 + x1)) (r0 : rn 0 = nI x0) (r1 : rn 1 = nI x1) : f_MO_confirm_146 th le lo da si fl2 cn2 rn2 rg2 3 0 y0 y5 y6 fw cn rn rg = (y0, y5, y6, fw, f_BC_raiseCounters wl fw ru cn, rn, rg) := by
  have ver : ∀ (g x : Nat), g < 2 → x ≤ 1 → f_MO_versionOf (nI (2 * g + x)) y0 y5 y6 da si fw = f_IM_versionToldBy (f_FL_read (nI (2 * g + x)) 0 wl fw) := by
    intro g x hg hx
    unfold f_MO_versionOf f_FL_read
    have := idx_so (s := 2 * g + x) (j := 0) (by omega) (by decide)
    rw [show nI 0 = (0 : Int32) from rfl] at this
    rw [ver_eq, this, show (16 : Int32) = nI 16 from rfl, pk_mul, nI_clamp (by omega), nI_clamp (by omega), Nat.add_zero]
  have step : ∀ (n g x : Nat) (y : Nat → Int32), g < 2 → x ≤ 1 → ru g = nI (2 * g + x) → rn g = nI x → ∃ y' : Nat → Int32, f_MO_confirm_146 th le lo da si fl2 cn2 rn2 rg2 (n + 1) (nI g) y0 y5 y6 fw y rn rg = f_MO_confirm_146 th le lo da si fl2 cn2 rn2 rg2 n (nI (g + 1)) y0 y5 y6 fw y' rn rg ∧ f_BC_raiseCounters_2 wl fw ru cn (n + 1) (nI g) y = f_BC_raiseCounters_2 wl fw ru cn n (nI (g + 1)) y' := by
    intro n g x y hg hx hu hr
    have hn : ¬ (2 : Int32) ≤ nI g := by rw [le_lit (l := 2) (c := 2) rfl (by decide) (by omega)]; omega
    rw [f_MO_confirm_146, f_BC_raiseCounters_2, if_neg hn, if_neg hn, nI_clamp (by omega), hr, hu, nI2g, ver g x hg hx, nI_1]
    by_cases q : f_IM_versionToldBy (f_FL_read (nI (2 * g + x)) 0 wl fw) ≤ y g
    · rw [if_pos q, if_pos q, upd_self]; exact ⟨_, rfl, rfl⟩
    · rw [if_neg q, if_neg q]; exact ⟨_, rfl, rfl⟩
  unfold f_BC_raiseCounters
  obtain ⟨c1, e1, d1⟩ := step 2 0 x0 cn (by decide) h0 u0 r0
  obtain ⟨c2, e2, d2⟩ := step 1 1 x1 c1 (by decide) h1 u1 r1
  rw [show nI (0 + 1) = nI 1 from rfl] at e1 d1
  rw [show nI 0 = (0 : Int32) from rfl] at e1 d1
  rw [e1, d1, e2, d2, f_MO_confirm_146, if_pos (by decide), f_BC_raiseCounters_2, if_pos (by decide)]
/-- what confirm leaves on both sides -/
def COut (c : Nat × Int32 × (Nat → Int32) × (Nat → Int32) × (Nat → Int32) × (Nat → Int32)) (r : Int32 × Int32 × Int32 × (Nat → Int32) × (Nat → Int32) × (Nat → Int32) × (Nat → Int32)) : Prop :=
  ∃ (k : Nat) (wl : Int32) (fw ru cn rg : Nat → Int32) (th lo : Int32) (rn : Nat → Int32), c = (k, wl, fw, ru, cn, rg) ∧ r = (th, wl, lo, fw, cn, rn, rg) ∧ ((k = 0 ∧ th = 0) ∨ (k = 2 ∧ th = 1) ∨ (k = 3 ∧ th = 2)) ∧ lef wl ∧ runR ru rn
theorem conf_end {x0 x1 : Nat} (h0 : x0 ≤ 1) (h1 : x1 ≤ 1) (wl : Int32) (fw ru cn rg rn : Nat → Int32) (th le lo da si : Int32) (fl2 cn2 rn2 rg2 : Nat → Int32) (hl : lef wl) (u0 : ru 0 = nI (2 * 0 + x0)) (u1 : ru 1 = nI (2 * 1 + x1)) (r0 : rn 0 = nI x0) (r1 : rn 1 = nI x1) (W : Int32) (hne : ¬ W = now fw) (n : Nat) : COut (f_BC_confirm_c1 wl fw ru cn rg (f_FL_writeRecord W wl fw)) (f_MO_confirm_38 th le lo da si fl2 cn2 rn2 rg2 (n + 1) W 1 (nI 2) 0 wl 0 fw cn rn rg) := by
  rw [f_MO_confirm_38, if_pos (by decide), if_neg one0]
  obtain ⟨k1, k2⟩ := rec_rel (st := W) (th := 0) (da := da) (si := si) (w := fw) hl
  rw [k1]
  generalize f_FL_writeRecord W wl fw = u at k2 ⊢
  unfold f_BC_confirm_c1 f_MO_confirm_c1 f_MO_confirm_j127
  by_cases q : u.1 = 0
  · rw [if_pos q, wrt_0 q k2]
    dsimp only
    rw [if_neg one0, toff, moff]
    unfold f_BC_confirm_c2 f_MO_confirm_c2
    rw [k2.2.1 q]
    exact ⟨_, _, _, _, _, _, _, _, _, rfl, rfl, Or.inr (Or.inr ⟨rfl, rfl⟩), ⟨by decide, by decide⟩, run_off _ _⟩
  · rw [if_neg q, wrt_1 q]
    dsimp only
    rw [if_pos rfl]
    unfold f_BC_confirm_j61
    rw [raise_rel h0 h1 u.2.1 u.2.2 ru cn th le lo da si fl2 cn2 rn2 rg2 0 u.2.1 0 rn rg u0 u1 r0 r1]
    exact ⟨_, _, _, _, _, _, _, _, _, rfl, rfl, Or.inl ⟨rfl, rfl⟩, k2.2.2, Or.inr ⟨x0, h0, r0, u0⟩, Or.inr ⟨x1, h1, r1, u1⟩⟩
theorem ap_x {x : Nat} (h : x ≤ 1) : aP (nI x) = nI x := by
  have : x = 0 ∨ x = 1 := by omega
  rcases this with rfl | rfl
  · decide
  · decide
theorem confirm_rel (wl : Int32) (fw ru cn rg rn : Nat → Int32) (th lo da si : Int32) (hl : lef wl) (hr : runR ru rn) : COut (f_BC_confirm wl fw ru cn rg) (f_MO_confirm th wl lo da si fw cn rn rg) := by
  unfold f_BC_confirm f_MO_confirm
  by_cases b : f_MO_both th wl lo da si rn = 0
  · rw [if_pos b, if_pos ((both_rel th wl lo da si hr).mpr b)]
    exact ⟨_, _, _, _, _, _, _, _, _, rfl, rfl, Or.inr (Or.inl ⟨rfl, rfl⟩), hl, hr⟩
  rw [if_neg b, if_neg (fun z => b ((both_rel th wl lo da si hr).mp z))]
  obtain ⟨⟨x0, h0, r0, u0⟩, x1, h1, r1, u1⟩ := run_x th wl lo da si hr b
  unfold f_MO_confirm_j13
  rw [if_pos (show (0 : Int32) ≤ 0 by decide), show f_MO_stateNow 0 wl 0 da si fw = now fw from rfl, hst_now]
  unfold f_BC_confirmTrials
  obtain ⟨a0, g0, e0⟩ := a_of (st := now fw) (sg := nI 0) (Or.inl rfl)
  obtain ⟨a1, g1, e1⟩ := a_of (st := now fw) (sg := nI 1) (Or.inr rfl)
  have i0 := flp_iff (g := 0) (by decide) h0 g0 u0 e0
  have i1 := flp_iff (g := 1) (by decide) h1 g1 u1 e1
  have st0 : (nI 0 = 0 ∧ nI 1 = 1) ∨ (nI 0 = 1 ∧ nI 1 = 0) := Or.inl ⟨rfl, rfl⟩
  have st1 : (nI 1 = 0 ∧ nI 0 = 1) ∨ (nI 1 = 1 ∧ nI 0 = 0) := Or.inr ⟨rfl, rfl⟩
  have z01' : ∀ {x : Nat}, x ≤ 1 → nI x = 0 ∨ nI x = 1 := fun {x} h => st2 (by omega)
  -- the class's change of a stage is the reference's
  have ch : ∀ (g x a : Nat) (X : Int32), g < 2 → x ≤ 1 → a ≤ 1 → aP (f_MO_part X (nI g)) = nI a → ¬ nI x = nI a → f_SB_withOtherActive X (nI g) = f_MO_with X (nI g) (nI x) := by
    intro g x a X hg hx ha hA hn
    rw [B7 (st2 hg), hA, nI1m ha]
    congr 1
    rw [nI_eq (by omega) (by omega)] at hn ⊢
    omega
  have cc : ∀ X : Int32, f_BC_confirmTrials_4 (now fw) ru 3 X 0 = f_BC_confirmTrials_4 (now fw) ru (2 + 1) X (nI 0) := fun _ => rfl
  have rr : ∀ X : Int32, f_MO_confirm_38 th wl lo da si fw cn rn rg 3 X 0 0 0 wl 0 fw cn rn rg = f_MO_confirm_38 th wl lo da si fw cn rn rg (2 + 1) X 0 (nI 0) 0 wl 0 fw cn rn rg := fun _ => rfl
  rw [cc, rr]
  by_cases f0 : flp 0 (now fw) ru
  · have q0 := i0.mp f0
    have c0 := ch 0 x0 a0 (now fw) (by decide) h0 g0 e0 (by rw [← e0]; exact q0.2)
    rw [ccf_y (by decide) 2 _ f0, rcf_y (by decide) _ _ _ _ _ _ _ _ _ 2 _ _ _ _ _ _ _ _ _ r0 q0, c0]
    have p1 : f_MO_part (f_MO_with (now fw) (nI 0) (nI x0)) (nI 1) = f_MO_part (now fw) (nI 1) := with_other st0 (z01' h0)
    by_cases f1 : flp 1 (now fw) ru
    · have q1 := i1.mp f1
      have c1 := ch 1 x1 a1 (f_MO_with (now fw) (nI 0) (nI x0)) (by decide) h1 g1 (by rw [p1]; exact e1) (by rw [← e1]; exact q1.2)
      rw [ccf_y (by decide) 1 _ f1, rcf_y (by decide) _ _ _ _ _ _ _ _ _ 1 _ _ _ _ _ _ _ _ _ r1 (by rw [p1]; exact q1), c1, show nI (1 + 1) = nI 2 from rfl, ccf_e]
      have hne : ¬ f_MO_with (f_MO_with (now fw) (nI 0) (nI x0)) (nI 1) (nI x1) = now fw := by
        intro z
        have p0 := with_other (st := f_MO_with (now fw) (nI 0) (nI x0)) st1 (z01' h1)
        rw [with_own (st2 (by decide)) (z01' h0), z] at p0
        exact q0.2 (by rw [p0, ap_x h0])
      rw [if_neg hne]
      exact conf_end h0 h1 wl fw ru cn rg rn th wl lo da si fw cn rn rg hl u0 u1 r0 r1 _ hne 0
    · have q1 := fun z => f1 (i1.mpr z)
      rw [ccf_n (by decide) 1 _ f1, rcf_n (by decide) _ _ _ _ _ _ _ _ _ 1 _ _ (Or.inr rfl) _ _ _ _ _ _ _ r1 (by rw [p1]; exact q1), show nI (1 + 1) = nI 2 from rfl, ccf_e]
      have hne : ¬ f_MO_with (now fw) (nI 0) (nI x0) = now fw := by
        intro z
        have p0 := with_own (st := now fw) (p := nI x0) (st2 (g := 0) (by decide)) (z01' h0)
        rw [z] at p0
        exact q0.2 (by rw [p0, ap_x h0])
      rw [if_neg hne]
      exact conf_end h0 h1 wl fw ru cn rg rn th wl lo da si fw cn rn rg hl u0 u1 r0 r1 _ hne 0
  · have q0 := fun z => f0 (i0.mpr z)
    rw [ccf_n (by decide) 2 _ f0, rcf_n (by decide) _ _ _ _ _ _ _ _ _ 2 _ _ (Or.inl rfl) _ _ _ _ _ _ _ r0 q0]
    by_cases f1 : flp 1 (now fw) ru
    · have q1 := i1.mp f1
      have c1 := ch 1 x1 a1 (now fw) (by decide) h1 g1 e1 (by rw [← e1]; exact q1.2)
      rw [ccf_y (by decide) 1 _ f1, rcf_y (by decide) _ _ _ _ _ _ _ _ _ 1 _ _ _ _ _ _ _ _ _ r1 q1, c1, show nI (1 + 1) = nI 2 from rfl, ccf_e]
      have hne : ¬ f_MO_with (now fw) (nI 1) (nI x1) = now fw := by
        intro z
        have p0 := with_own (st := now fw) (p := nI x1) (st2 (g := 1) (by decide)) (z01' h1)
        rw [z] at p0
        exact q1.2 (by rw [p0, ap_x h1])
      rw [if_neg hne]
      exact conf_end h0 h1 wl fw ru cn rg rn th wl lo da si fw cn rn rg hl u0 u1 r0 r1 _ hne 0
    · have q1 := fun z => f1 (i1.mpr z)
      rw [ccf_n (by decide) 1 _ f1, rcf_n (by decide) _ _ _ _ _ _ _ _ _ 1 _ _ (Or.inl rfl) _ _ _ _ _ _ _ r1 q1, show nI (1 + 1) = nI 2 from rfl, ccf_e, if_pos rfl]
      rw [f_MO_confirm_38, if_pos (by decide), if_pos rfl]
      unfold f_MO_confirm_j127 f_BC_confirm_j61
      rw [if_pos rfl, raise_rel h0 h1 wl fw ru cn th wl lo da si fw cn rn rg 0 wl 0 rn rg u0 u1 r0 r1]
      exact ⟨_, _, _, _, _, _, _, _, _, rfl, rfl, Or.inl ⟨rfl, rfl⟩, hl, hr⟩

