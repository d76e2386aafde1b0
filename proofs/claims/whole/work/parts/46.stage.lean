/-! Starting a stage: class against reference. -/
def gd (s : Nat) (fl cn : Nat → Int32) : Int32 := (f_MO_good (nI s) 0 0 0 0 0 kcE bgE zL zL zL zL zA fl cn).1
theorem half {s g x : Nat} (h : s = 2 * g + x) (hx : x ≤ 1) : nI g = nI (s / 2) := by rw [show s / 2 = g by omega]
theorem cgood {s : Nat} (hs : s < 4) {so sg : Int32} (hso : so = nI s) (hsg : sg = nI (s / 2)) (wl : Int32) (fl iw : Nat → Int32) (sl : Int32) (ms sc ch cn hh : Nat → Int32) : (f_BC_isGood so sg wl fl iw sl ms sc ch cn hh).1 = gd s fl cn := by
  subst hso
  exact good_rel hs hsg 0 0 0 0 zL zL zL zL zA fl cn (fun _ _ => rfl) (fun _ _ => rfl) wl iw sl ms sc ch hh
theorem rgood {s : Nat} (hs : s < 4) {so : Int32} (hso : so = nI s) (th le lo da : Int32) {si : Int32} (hsi : si = 0) {kc bg : Nat → Int64} (tx wi nw vv : Nat → Int64) (aw_ fl cn : Nat → Int32) (hkc : kcOk kc) (hbg : bgOk bg) : (f_MO_good so th le lo da si kc bg tx wi nw vv aw_ fl cn).1 = gd s fl cn := by
  subst hso; subst hsi
  exact (good_rel hs (sg := nI (s / 2)) rfl th le lo da tx wi nw vv aw_ fl cn hkc hbg 0 zA 0 zA zA zA zA).symm.trans (cgood hs rfl rfl 0 fl zA 0 zA zA zA cn zA)
theorem gd01 (s : Nat) (fl cn : Nat → Int32) : gd s fl cn = 0 ∨ gd s fl cn = 1 := (mo_good01 (nI s) 0 0 0 0 0 kcE bgE zL zL zL zL zA fl cn rfl).1
def pk2 (g a : Nat) (fl cn : Nat → Int32) : Option Nat := if gd (2 * g + a) fl cn = 0 then (if gd (2 * g + (1 - a)) fl cn = 0 then none else some (1 - a)) else some a
def slotv (g : Nat) (o : Option Nat) : Int32 := match o with
  | none => -1
  | some x => nI (2 * g + x)
theorem nI1m {a : Nat} (h : a ≤ 1) : (1 : Int32) - nI a = nI (1 - a) := by rw [show (1 : Int32) = nI 1 from rfl, pk_sub h]
theorem nI2g {g x : Nat} : (2 : Int32) * nI g + nI x = nI (2 * g + x) := by rw [show (2 : Int32) = nI 2 from rfl, pk_mul, nI_add]
theorem st2 {g : Nat} (h : g < 2) : nI g = 0 ∨ nI g = 1 := by
  have : g = 0 ∨ g = 1 := by omega
  rcases this with rfl | rfl
  · exact Or.inl rfl
  · exact Or.inr rfl
theorem act_is {g a : Nat} (hg : g < 2) {st : Int32} (ha : aP (f_MO_part st (nI g)) = nI a) : f_SB_activeSlot st (nI g) = nI (2 * g + a) := by rw [B1 (st2 hg), ha, nI2g]
theorem oth_is {g a : Nat} (hg : g < 2) (h1 : a ≤ 1) {st : Int32} (ha : aP (f_MO_part st (nI g)) = nI a) : f_SB_otherSlot st (nI g) = nI (2 * g + (1 - a)) := by rw [B2 (st2 hg), ha, nI1m h1, nI2g]
theorem cwithout {g a : Nat} (hg : g < 2) (h1 : a ≤ 1) (wl : Int32) (fw iw : Nat → Int32) (sl : Int32) (ms sc ch cn hh : Nat → Int32) (ha : aP (f_MO_part (now fw) (nI g)) = nI a) : (f_BC_slotWithoutTrial (nI g) wl fw iw sl ms sc ch cn hh).1 = slotv g (pk2 g a fw cn) := by
  unfold f_BC_slotWithoutTrial
  rw [hst_now, act_is hg ha]
  have e1 := cgood (s := 2 * g + a) (by omega) rfl (half rfl h1) wl fw iw sl ms sc ch cn hh
  generalize f_BC_isGood (nI (2 * g + a)) (nI g) wl fw iw sl ms sc ch cn hh = u1 at e1 ⊢
  unfold f_BC_slotWithoutTrial_c1
  rw [hst_now, act_is hg ha, oth_is hg h1 ha, e1]
  unfold pk2
  by_cases q1 : gd (2 * g + a) fw cn = 0
  · rw [if_pos q1, if_pos q1]
    have e2 := cgood (s := 2 * g + (1 - a)) (by omega) rfl (half rfl (by omega)) wl fw u1.2.1 u1.2.2.1 u1.2.2.2.1 u1.2.2.2.2.1 u1.2.2.2.2.2.1 cn u1.2.2.2.2.2.2
    generalize f_BC_isGood (nI (2 * g + (1 - a))) (nI g) wl fw u1.2.1 u1.2.2.1 u1.2.2.2.1 u1.2.2.2.2.1 u1.2.2.2.2.2.1 cn u1.2.2.2.2.2.2 = u2 at e2 ⊢
    unfold f_BC_slotWithoutTrial_c2
    rw [hst_now, oth_is hg h1 ha, e2]
    by_cases q2 : gd (2 * g + (1 - a)) fw cn = 0
    · rw [if_pos q2, if_pos q2]; rfl
    · rw [if_neg q2, if_neg q2]; rfl
  · rw [if_neg q1, if_neg q1]; rfl
def stw (g a : Nat) (cn : Nat → Int32) (u : Int32 × Int32 × (Nat → Int32)) : Option (Option Nat) × Int32 × (Nat → Int32) := if u.1 = 0 then (none, u.2.1, u.2.2) else (some (pk2 g a u.2.2 cn), u.2.1, u.2.2)
def stt (g a : Nat) (st : Int32) (cn : Nat → Int32) (u : Int32 × Int32 × (Nat → Int32)) : Option (Option Nat) × Int32 × (Nat → Int32) := if u.1 = 0 then (none, u.2.1, u.2.2) else if gd (2 * g + (1 - a)) u.2.2 cn = 0 then stw g a cn (f_FL_writeRecord (f_SB_withoutTrial st (nI g)) u.2.1 u.2.2) else (some (some (1 - a)), u.2.1, u.2.2)
def stg (g a : Nat) (st wl : Int32) (fw cn : Nat → Int32) : Option (Option Nat) × Int32 × (Nat → Int32) := if f_SB_onTrial st (nI g) = 0 then (some (pk2 g a fw cn), wl, fw) else if f_SB_triesLeft st (nI g) ≤ 0 then stw g a cn (f_FL_writeRecord (f_SB_withoutTrial st (nI g)) wl fw) else stt g a st cn (f_FL_writeRecord (f_SB_withTrial st (nI g) (f_SB_triesLeft st (nI g) - 1)) wl fw)
/-- what the class's search for a slot on trial leaves -/
def CS (g a : Nat) (cn : Nat → Int32) (x wl : Int32) (fw : Nat → Int32) (o : Option (Option Nat) × Int32 × (Nat → Int32)) : Prop :=
  wl = o.2.1 ∧ fw = o.2.2 ∧ lef wl ∧ ((o.1 = none ∧ x = -2) ∨ (o.1 = some (pk2 g a fw cn) ∧ x = -1 ∧ aP (f_MO_part (now fw) (nI g)) = nI a) ∨ (o.1 = some (some (1 - a)) ∧ x = nI (2 * g + (1 - a))))
theorem cj69 {g a : Nat} (hg : g < 2) (sg wl : Int32) (fw iw : Nat → Int32) (sl : Int32) (ms sc ch cn hh : Nat → Int32) (st y1 : Int32) (y2 y4 : Nat → Int32) (y5 : Int32) (y6 y7 y8 y10 : Nat → Int32) (hsg : sg = nI g) (hl : lef y1) (ha : aP (f_MO_part st (nI g)) = nI a) (hn : same (nI g) st (now y2)) : CS g a cn (f_BC_slotOnTrial_j69 sg wl fw iw sl ms sc ch cn hh st y1 y2 y4 y5 y6 y7 y8 y10).1 (f_BC_slotOnTrial_j69 sg wl fw iw sl ms sc ch cn hh st y1 y2 y4 y5 y6 y7 y8 y10).2.1 (f_BC_slotOnTrial_j69 sg wl fw iw sl ms sc ch cn hh st y1 y2 y4 y5 y6 y7 y8 y10).2.2.1 (stw g a cn (f_FL_writeRecord (f_SB_withoutTrial st (nI g)) y1 y2)) := by
  subst hsg
  unfold f_BC_slotOnTrial_j69
  have k := (rec_rel (st := f_SB_withoutTrial st (nI g)) (th := 0) (da := 0) (si := 0) (w := y2) hl).2
  have kn := rec_now (st := f_SB_withoutTrial st (nI g)) (wl := y1) (w := y2)
  generalize f_FL_writeRecord (f_SB_withoutTrial st (nI g)) y1 y2 = u at k kn ⊢
  unfold f_BC_slotOnTrial_c3 stw
  by_cases q : u.1 = 0
  · rw [if_pos q, if_pos q]
    exact ⟨rfl, rfl, k.2.2, Or.inl ⟨rfl, rfl⟩⟩
  · rw [if_neg q, if_neg q]
    refine ⟨rfl, rfl, k.2.2, Or.inr (Or.inl ⟨rfl, rfl, ?_⟩)⟩
    show aP (f_MO_part (now u.2.2) (nI g)) = nI a
    rcases kn q with e | e
    · rw [e, (same_wo (st2 hg)).1, ha]
    · rw [e, hn.1, ha]
theorem cstage {g a : Nat} (hg : g < 2) (h1 : a ≤ 1) (wl : Int32) (fw iw : Nat → Int32) (sl : Int32) (ms sc ch cn hh : Nat → Int32) (hl : lef wl) (ha : aP (f_MO_part (now fw) (nI g)) = nI a) : CS g a cn (f_BC_slotOnTrial (nI g) wl fw iw sl ms sc ch cn hh).1 (f_BC_slotOnTrial (nI g) wl fw iw sl ms sc ch cn hh).2.1 (f_BC_slotOnTrial (nI g) wl fw iw sl ms sc ch cn hh).2.2.1 (stg g a (now fw) wl fw cn) := by
  unfold f_BC_slotOnTrial stg
  rw [hst_now]
  by_cases q1 : f_SB_onTrial (now fw) (nI g) = 0
  · rw [if_pos q1, if_pos q1]
    exact ⟨rfl, rfl, hl, Or.inr (Or.inl ⟨rfl, rfl, ha⟩)⟩
  rw [if_neg q1, if_neg q1]
  by_cases q2 : f_SB_triesLeft (now fw) (nI g) ≤ 0
  · rw [if_pos q2, if_pos q2]
    exact cj69 hg (nI g) wl fw iw sl ms sc ch cn hh (now fw) wl fw iw sl ms sc ch hh rfl hl ha (same_rfl _ _)
  rw [if_neg q2, if_neg q2]
  have k := (rec_rel (st := f_SB_withTrial (now fw) (nI g) (f_SB_triesLeft (now fw) (nI g) - 1)) (th := 0) (da := 0) (si := 0) (w := fw) hl).2
  have kn := rec_now (st := f_SB_withTrial (now fw) (nI g) (f_SB_triesLeft (now fw) (nI g) - 1)) (wl := wl) (w := fw)
  generalize f_FL_writeRecord (f_SB_withTrial (now fw) (nI g) (f_SB_triesLeft (now fw) (nI g) - 1)) wl fw = u at k kn ⊢
  unfold f_BC_slotOnTrial_c1 stt
  rw [hst_now, oth_is hg h1 ha]
  by_cases q3 : u.1 = 0
  · rw [if_pos q3, if_pos q3]
    exact ⟨rfl, rfl, k.2.2, Or.inl ⟨rfl, rfl⟩⟩
  rw [if_neg q3, if_neg q3]
  have e2 := cgood (s := 2 * g + (1 - a)) (by omega) rfl (half rfl (by omega)) u.2.1 u.2.2 iw sl ms sc ch cn hh
  generalize f_BC_isGood (nI (2 * g + (1 - a))) (nI g) u.2.1 u.2.2 iw sl ms sc ch cn hh = v at e2 ⊢
  unfold f_BC_slotOnTrial_c2
  rw [hst_now, oth_is hg h1 ha, e2]
  by_cases q4 : gd (2 * g + (1 - a)) u.2.2 cn = 0
  · rw [if_pos q4, if_pos q4]
    refine cj69 hg (nI g) wl fw iw sl ms sc ch cn hh (now fw) u.2.1 u.2.2 v.2.1 v.2.2.1 v.2.2.2.1 v.2.2.2.2.1 v.2.2.2.2.2.1 v.2.2.2.2.2.2 rfl k.2.2 ha ?_
    rcases kn q3 with e | e
    · rw [e]; exact same_wt (st2 hg) q2
    · rw [e]; exact same_rfl _ _
  · rw [if_neg q4, if_neg q4]
    exact ⟨rfl, rfl, k.2.2, Or.inr (Or.inr ⟨rfl, rfl⟩)⟩
/-! the reference -/
def R3 (v : Int32 × Int32 × Int32 × Int32 × (Nat → Int64) × (Nat → Int64) × (Nat → Int64) × (Nat → Int64) × (Nat → Int32) × (Nat → Int32) × (Nat → Int32) × (Nat → Int32)) (x le lo : Int32) (fl rn rg : Nat → Int32) : Prop := v.1 = x ∧ v.2.1 = le ∧ v.2.2.1 = lo ∧ v.2.2.2.2.2.2.2.2.2.1 = fl ∧ v.2.2.2.2.2.2.2.2.2.2.1 = rn ∧ v.2.2.2.2.2.2.2.2.2.2.2 = rg
theorem r188_0 {g : Nat} (hg : g < 2) (th le lo da si : Int32) {kc bg : Nat → Int64} (tx wi nw vv : Nat → Int64) (aw_ fl cn rn rg : Nat → Int32) (x7 y05 y06 y011 : Int32) (y3 y4 y5 y6 : Nat → Int64) (y7 y8 y10 y11 : Nat → Int32) : R3 (f_MO_start_j188 (nI g) th le lo da si kc bg tx wi nw vv aw_ fl cn rn rg x7 0 y05 y06 y011 y3 y4 y5 y6 y7 y8 y10 y11) 0 y05 y06 y8 (upd y10 g (-1)) y11 := by
  unfold f_MO_start_j188
  rw [if_pos rfl, if_pos rfl, nI_clamp (by omega)]
  exact ⟨rfl, rfl, rfl, rfl, rfl, rfl⟩
theorem r188_1 {g x : Nat} (hg : g < 2) (hx : x ≤ 1) (th le lo da si : Int32) {kc bg : Nat → Int64} (tx wi nw vv : Nat → Int64) (aw_ fl cn rn rg : Nat → Int32) (hkc : kcOk kc) (hbg : bgOk bg) (x8 y05 y06 y011 : Int32) (y3 y4 y5 y6 : Nat → Int64) (y7 y8 y10 y11 : Nat → Int32) (h8 : x8 = 1) (h0 : y011 = 0) : R3 (f_MO_start_j188 (nI g) th le lo da si kc bg tx wi nw vv aw_ fl cn rn rg (nI x) x8 y05 y06 y011 y3 y4 y5 y6 y7 y8 y10 y11) 1 y05 y06 y8 (upd y10 g (nI x)) (fld y11 y8 g (2 * g + x)) := by
  subst h8; subst h0
  unfold f_MO_start_j188
  rw [if_neg one0, nI2g]
  have e := rfold (s := 2 * g + x) (g := g) (by omega) hg (sg := nI g) rfl rfl th y05 y06 da y3 y4 y5 y6 y7 y8 y11 hkc hbg
  generalize f_MO_fold (nI g) (nI (2 * g + x)) th y05 y06 da 0 kc bg y3 y4 y5 y6 y7 y8 y11 = u at e ⊢
  obtain ⟨u1, u2, u3, u4, u5, u6, u7⟩ := u
  have e' : u7 = fld y11 y8 g (2 * g + x) := e
  unfold f_MO_start_c5
  rw [if_neg one0, nI_clamp (by omega), e']
  exact ⟨rfl, rfl, rfl, rfl, rfl, rfl⟩
/-- what a stage comes to -/
def RO (v : Int32 × Int32 × Int32 × Int32 × (Nat → Int64) × (Nat → Int64) × (Nat → Int64) × (Nat → Int64) × (Nat → Int32) × (Nat → Int32) × (Nat → Int32) × (Nat → Int32)) (g : Nat) (rn rg : Nat → Int32) (o : Option (Option Nat) × Int32 × (Nat → Int32)) : Prop := match o.1 with
  | none => v.1 = 0 ∧ v.2.1 = o.2.1 ∧ v.2.2.1 = 1 ∧ v.2.2.2.2.2.2.2.2.2.1 = o.2.2 ∧ v.2.2.2.2.2.2.2.2.2.2.1 = rn ∧ v.2.2.2.2.2.2.2.2.2.2.2 = rg
  | some none => R3 v 0 o.2.1 0 o.2.2 (upd rn g (-1)) rg
  | some (some x) => R3 v 1 o.2.1 0 o.2.2 (upd rn g (nI x)) (fld rg o.2.2 g (2 * g + x))
theorem r165 {g a : Nat} (hg : g < 2) (h1 : a ≤ 1) (th le lo da si : Int32) {kc bg : Nat → Int64} (tx wi nw vv : Nat → Int64) (aw_ fl cn rn rg : Nat → Int32) (hkc : kcOk kc) (hbg : bgOk bg) (x8 y05 y011 : Int32) (y3 y4 y5 y6 : Nat → Int64) (y7 y8 y10 y11 : Nat → Int32) (h8 : x8 = gd (2 * g + a) y8 cn) (h0 : y011 = 0) : RO (f_MO_start_j165 (nI g) th le lo da si kc bg tx wi nw vv aw_ fl cn rn rg (nI a) (nI a) x8 y05 0 y011 y3 y4 y5 y6 y7 y8 y10 y11) g y10 y11 (some (pk2 g a y8 cn), y05, y8) := by
  subst h0
  unfold f_MO_start_j165 pk2
  by_cases q : x8 = 0
  · rw [if_pos q, ← h8, if_pos q, nI1m h1, nI2g]
    have e := rgood (s := 2 * g + (1 - a)) (by omega) rfl th y05 0 da (si := 0) rfl y3 y4 y5 y6 y7 y8 cn hkc hbg
    have e0 := (mo_good01 (nI (2 * g + (1 - a))) th y05 0 da 0 kc bg y3 y4 y5 y6 y7 y8 cn rfl).2
    generalize f_MO_good (nI (2 * g + (1 - a))) th y05 0 da 0 kc bg y3 y4 y5 y6 y7 y8 cn = u at e e0 ⊢
    unfold f_MO_start_c4
    rw [nI1m h1]
    by_cases q2 : gd (2 * g + (1 - a)) y8 cn = 0
    · rw [if_pos q2, e, q2]
      exact r188_0 hg th le lo da si tx wi nw vv aw_ fl cn rn rg _ _ _ _ _ _ _ _ _ _ _ _
    · rw [if_neg q2]
      exact r188_1 hg (by omega) th le lo da si tx wi nw vv aw_ fl cn rn rg hkc hbg _ _ _ _ _ _ _ _ _ _ _ _ (e.trans ((gd01 _ _ _).resolve_left q2)) e0
  · rw [if_neg q, ← h8, if_neg q]
    exact r188_1 hg h1 th le lo da si tx wi nw vv aw_ fl cn rn rg hkc hbg _ _ _ _ _ _ _ _ _ _ _ _ (h8.trans ((gd01 _ _ _).resolve_left (fun z => q (h8.trans z)))) rfl
theorem r93a {g a : Nat} (hg : g < 2) (h1 : a ≤ 1) (th le lo da si : Int32) {kc bg : Nat → Int64} (tx wi nw vv : Nat → Int64) (aw_ fl cn rn rg : Nat → Int32) (hkc : kcOk kc) (hbg : bgOk bg) (y05 y011 : Int32) (y3 y4 y5 y6 : Nat → Int64) (y7 y8 y10 y11 : Nat → Int32) (h0 : y011 = 0) : RO (f_MO_start_j93 (nI g) th le lo da si kc bg tx wi nw vv aw_ fl cn rn rg (nI a) (nI a) y05 0 y011 y3 y4 y5 y6 y7 y8 y10 y11) g y10 y11 (some (pk2 g a y8 cn), y05, y8) := by
  subst h0
  unfold f_MO_start_j93
  rw [if_pos rfl, nI2g]
  have e := rgood (s := 2 * g + a) (by omega) rfl th y05 0 da (si := 0) rfl y3 y4 y5 y6 y7 y8 cn hkc hbg
  have e0 := (mo_good01 (nI (2 * g + a)) th y05 0 da 0 kc bg y3 y4 y5 y6 y7 y8 cn rfl).2
  generalize f_MO_good (nI (2 * g + a)) th y05 0 da 0 kc bg y3 y4 y5 y6 y7 y8 cn = u at e e0 ⊢
  unfold f_MO_start_c1
  rw [if_pos rfl, ite_self]
  exact r165 hg h1 th le lo da si tx wi nw vv aw_ fl cn rn rg hkc hbg _ _ _ _ _ _ _ _ _ _ _ e e0
theorem r93l {g : Nat} (th le lo da si : Int32) {kc bg : Nat → Int64} (tx wi nw vv : Nat → Int64) (aw_ fl cn rn rg : Nat → Int32) (x4 x7 y05 y011 : Int32) (y3 y4 y5 y6 : Nat → Int64) (y7 y8 y10 y11 : Nat → Int32) (w : Int32) (hw : y05 = w) : RO (f_MO_start_j93 (nI g) th le lo da si kc bg tx wi nw vv aw_ fl cn rn rg x4 x7 y05 1 y011 y3 y4 y5 y6 y7 y8 y10 y11) g y10 y11 (none, w, y8) := by
  unfold f_MO_start_j93
  rw [if_neg one0]
  exact ⟨rfl, hw, rfl, rfl, rfl, rfl⟩
theorem nI_ne {a : Nat} (h1 : a ≤ 1) : ¬ nI (1 - a) = nI a := by
  rw [nI_eq (by omega) (by omega)]; omega
theorem r93b {g a : Nat} (hg : g < 2) (h1 : a ≤ 1) (th le lo da si : Int32) {kc bg : Nat → Int64} (tx wi nw vv : Nat → Int64) (aw_ fl cn rn rg : Nat → Int32) (hkc : kcOk kc) (hbg : bgOk bg) (y05 y011 : Int32) (y3 y4 y5 y6 : Nat → Int64) (y7 y8 y10 y11 : Nat → Int32) (h0 : y011 = 0) (hl : lef y05) (st : Int32) (ha : aP (f_MO_part st (nI g)) = nI a) (hn : same (nI g) st (now y8)) : RO (f_MO_start_j93 (nI g) th le lo da si kc bg tx wi nw vv aw_ fl cn rn rg (nI a) (nI (1 - a)) y05 0 y011 y3 y4 y5 y6 y7 y8 y10 y11) g y10 y11 (if gd (2 * g + (1 - a)) y8 cn = 0 then stw g a cn (f_FL_writeRecord (f_SB_withoutTrial st (nI g)) y05 y8) else (some (some (1 - a)), y05, y8)) := by
  subst h0
  unfold f_MO_start_j93
  rw [if_pos rfl, nI2g]
  have e := rgood (s := 2 * g + (1 - a)) (by omega) rfl th y05 0 da (si := 0) rfl y3 y4 y5 y6 y7 y8 cn hkc hbg
  have e0 := (mo_good01 (nI (2 * g + (1 - a))) th y05 0 da 0 kc bg y3 y4 y5 y6 y7 y8 cn rfl).2
  generalize f_MO_good (nI (2 * g + (1 - a))) th y05 0 da 0 kc bg y3 y4 y5 y6 y7 y8 cn = u at e e0 ⊢
  unfold f_MO_start_c1
  rw [if_neg (nI_ne h1)]
  by_cases q : gd (2 * g + (1 - a)) y8 cn = 0
  · rw [if_pos (e.trans q), if_pos q]
    have es : f_MO_with (f_MO_stateNow th y05 0 da u.2.1 y8) (nI g) (nI a) = f_SB_withoutTrial st (nI g) := by
      rw [B5 (st2 hg), ← hn.2, ha]
      rfl
    rw [es]
    obtain ⟨k1, k2⟩ := rec_rel (st := f_SB_withoutTrial st (nI g)) (th := th) (da := da) (si := u.2.1) (w := y8) hl
    rw [k1]
    generalize f_FL_writeRecord (f_SB_withoutTrial st (nI g)) y05 y8 = w at k2 ⊢
    unfold f_MO_start_c2 stw
    by_cases q2 : w.1 = 0
    · rw [if_pos q2, wrt_0 q2 k2]
      exact ⟨rfl, (k2.2.1 q2).symm, rfl, rfl, rfl, rfl⟩
    · rw [if_neg q2, wrt_1 q2]
      dsimp only
      rw [if_pos rfl, nI2g, e0]
      have e1 := rgood (s := 2 * g + a) (by omega) rfl th w.2.1 0 da (si := 0) rfl u.2.2.1 u.2.2.2.1 u.2.2.2.2.1 u.2.2.2.2.2.1 u.2.2.2.2.2.2 w.2.2 cn hkc hbg
      have e10 := (mo_good01 (nI (2 * g + a)) th w.2.1 0 da 0 kc bg u.2.2.1 u.2.2.2.1 u.2.2.2.2.1 u.2.2.2.2.2.1 u.2.2.2.2.2.2 w.2.2 cn rfl).2
      generalize f_MO_good (nI (2 * g + a)) th w.2.1 0 da 0 kc bg u.2.2.1 u.2.2.2.1 u.2.2.2.2.1 u.2.2.2.2.2.1 u.2.2.2.2.2.2 w.2.2 cn = v at e1 e10 ⊢
      unfold f_MO_start_c3
      exact r165 hg h1 th le lo da si tx wi nw vv aw_ fl cn rn rg hkc hbg _ _ _ _ _ _ _ _ _ _ _ e1 e10
  · have e1 : u.1 = 1 := e.trans ((gd01 _ _ _).resolve_left q)
    rw [if_neg (fun z => q (e.symm.trans z)), if_neg q]
    unfold f_MO_start_j165
    rw [if_neg (fun z => q (e.symm.trans z))]
    exact r188_1 hg (by omega) th le lo da si tx wi nw vv aw_ fl cn rn rg hkc hbg _ _ _ _ _ _ _ _ _ _ _ _ e1 e0
theorem rstage {g a : Nat} (hg : g < 2) (h1 : a ≤ 1) (th le da : Int32) {kc bg : Nat → Int64} (tx wi nw vv : Nat → Int64) (aw_ fl cn rn rg : Nat → Int32) (hkc : kcOk kc) (hbg : bgOk bg) (hl : lef le) (ha : aP (f_MO_part (now fl) (nI g)) = nI a) : RO (f_MO_start (nI g) th le 0 da 0 kc bg tx wi nw vv aw_ fl cn rn rg) g rn rg (stg g a (now fl) le fl cn) := by
  unfold f_MO_start
  rw [show f_MO_stateNow th le 0 da 0 fl = now fl from rfl]
  have eA : f_MO_part (now fl) (nI g) - f_MO_part (now fl) (nI g) / 2 * 2 = nI a := ha
  rw [eA]
  unfold stg
  have b3 := B3 (st := now fl) (st2 hg)
  unfold tP at b3
  by_cases q1 : f_SB_onTrial (now fl) (nI g) = 0
  · rw [if_neg (b3.mp q1), if_pos q1]
    unfold f_MO_start_j30 f_MO_start_j54 f_MO_start_j56
    rw [if_pos rfl, if_pos rfl]
    exact r93a hg h1 th le 0 da 0 tx wi nw vv aw_ fl cn rn rg hkc hbg _ _ _ _ _ _ _ _ _ _ rfl
  have q1' : f_MO_part (now fl) (nI g) / 2 - f_MO_part (now fl) (nI g) / 2 / 2 * 2 = 1 := Classical.byContradiction fun z => q1 (b3.mpr z)
  rw [if_pos q1', if_neg q1]
  unfold f_MO_start_j30
  rw [if_neg one0, B4 (st2 hg)]
  by_cases q2 : f_MO_part (now fl) (nI g) / 4 ≤ 0
  · rw [if_pos q2, if_pos q2]
    unfold f_MO_start_j54 f_MO_start_j56
    rw [if_neg one0, if_pos q2]
    unfold f_MO_start_j87
    have es : f_MO_with (now fl) (nI g) (nI a) = f_SB_withoutTrial (now fl) (nI g) := by rw [B5 (st2 hg), ha]
    rw [es]
    obtain ⟨k1, k2⟩ := rec_rel (st := f_SB_withoutTrial (now fl) (nI g)) (th := th) (da := da) (si := 0) (w := fl) hl
    rw [k1]
    generalize f_FL_writeRecord (f_SB_withoutTrial (now fl) (nI g)) le fl = w at k2 ⊢
    unfold f_MO_start_c6 stw
    by_cases q3 : w.1 = 0
    · rw [if_pos q3, wrt_0 q3 k2]
      exact r93l th le 0 da 0 tx wi nw vv aw_ fl cn rn rg _ _ _ _ _ _ _ _ _ _ _ _ _ (k2.2.1 q3).symm
    · rw [if_neg q3, wrt_1 q3]
      exact r93a hg h1 th le 0 da 0 tx wi nw vv aw_ fl cn rn rg hkc hbg _ _ _ _ _ _ _ _ _ _ rfl
  rw [if_neg q2, if_neg q2]
  unfold f_MO_start_j56
  rw [if_neg one0, if_neg q2]
  unfold f_MO_start_j87
  have es : f_MO_with (now fl) (nI g) (nI a + 2 + 4 * (f_MO_part (now fl) (nI g) / 4 - 1)) = f_SB_withTrial (now fl) (nI g) (f_MO_part (now fl) (nI g) / 4 - 1) := by rw [B6 (st2 hg) q2, ha]
  rw [es]
  have sm : same (nI g) (now fl) (f_SB_withTrial (now fl) (nI g) (f_MO_part (now fl) (nI g) / 4 - 1)) := by
    have := same_wt (st := now fl) (st2 hg) (by rw [B4 (st2 hg)]; exact q2)
    rw [B4 (st2 hg)] at this
    exact this
  obtain ⟨k1, k2⟩ := rec_rel (st := f_SB_withTrial (now fl) (nI g) (f_MO_part (now fl) (nI g) / 4 - 1)) (th := th) (da := da) (si := 0) (w := fl) hl
  have kn := rec_now (st := f_SB_withTrial (now fl) (nI g) (f_MO_part (now fl) (nI g) / 4 - 1)) (wl := le) (w := fl)
  rw [k1]
  generalize f_FL_writeRecord (f_SB_withTrial (now fl) (nI g) (f_MO_part (now fl) (nI g) / 4 - 1)) le fl = w at k2 kn ⊢
  unfold f_MO_start_c6 stt
  by_cases q3 : w.1 = 0
  · rw [if_pos q3, wrt_0 q3 k2]
    exact r93l th le 0 da 0 tx wi nw vv aw_ fl cn rn rg _ _ _ _ _ _ _ _ _ _ _ _ _ (k2.2.1 q3).symm
  · rw [if_neg q3, wrt_1 q3, nI1m h1]
    refine r93b hg h1 th le 0 da 0 tx wi nw vv aw_ fl cn rn rg hkc hbg _ _ _ _ _ _ _ _ _ _ rfl k2.2.2 (now fl) ha ?_
    rcases kn q3 with e | e
    · exact e ▸ sm
    · exact e ▸ same_rfl _ _

