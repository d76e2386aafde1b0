/-! boot: class against reference. -/
def run1 (g : Nat) (ru rn : Nat → Int32) : Prop := (rn g = -1 ∧ ru g = -1) ∨ ∃ x : Nat, x ≤ 1 ∧ rn g = nI x ∧ ru g = nI (2 * g + x)
def runR (ru rn : Nat → Int32) : Prop := run1 0 ru rn ∧ run1 1 ru rn
theorem run_off (ru rn : Nat → Int32) : runR (off2 ru) (off2 rn) := ⟨Or.inl ⟨rfl, rfl⟩, Or.inl ⟨rfl, rfl⟩⟩
theorem stg_lef {g a : Nat} {st wl : Int32} {fw cn : Nat → Int32} (hl : lef wl) : lef (stg g a st wl fw cn).2.1 := by
  unfold stg
  split
  · exact hl
  · split
    · have k := (rec_rel (st := f_SB_withoutTrial st (nI g)) (th := 0) (da := 0) (si := 0) (w := fw) hl).2
      unfold stw
      split
      · exact k.2.2
      · exact k.2.2
    · have k := (rec_rel (st := f_SB_withTrial st (nI g) (f_SB_triesLeft st (nI g) - 1)) (th := 0) (da := 0) (si := 0) (w := fw) hl).2
      generalize f_FL_writeRecord (f_SB_withTrial st (nI g) (f_SB_triesLeft st (nI g) - 1)) wl fw = u at k ⊢
      unfold stt
      split
      · exact k.2.2
      · split
        · have k2 := (rec_rel (st := f_SB_withoutTrial st (nI g)) (th := 0) (da := 0) (si := 0) (w := u.2.2) k.2.2).2
          unfold stw
          split
          · exact k2.2.2
          · exact k2.2.2
        · exact k.2.2
theorem pk2_le {g a : Nat} {fl cn : Nat → Int32} (h1 : a ≤ 1) {x : Nat} (h : pk2 g a fl cn = some x) : x ≤ 1 := by
  unfold pk2 at h
  split at h
  · split at h
    · exact absurd h (by simp)
    · have := Option.some.inj h; omega
  · have := Option.some.inj h; omega
theorem stg_le {g a : Nat} {st wl : Int32} {fw cn : Nat → Int32} (h1 : a ≤ 1) {x : Nat} (h : (stg g a st wl fw cn).1 = some (some x)) : x ≤ 1 := by
  unfold stg at h
  split at h
  · exact pk2_le h1 (Option.some.inj h)
  · split at h
    · unfold stw at h
      split at h
      · exact absurd h (by simp)
      · exact pk2_le h1 (Option.some.inj h)
    · unfold stt at h
      split at h
      · exact absurd h (by simp)
      · split at h
        · unfold stw at h
          split at h
          · exact absurd h (by simp)
          · exact pk2_le h1 (Option.some.inj h)
        · have := Option.some.inj (Option.some.inj h); omega
/-- one turn of the class's loop -/
theorem cboot {g a : Nat} (hg : g < 2) (h1 : a ≤ 1) (wl : Int32) (fw iw : Nat → Int32) (sl : Int32) (ms sc ch ru cn rg hh : Nat → Int32) (n : Nat) (y1 : Int32) (y2 y4 : Nat → Int32) (y5 : Int32) (y6 y7 y8 y9 y11 y12 : Nat → Int32) (hl : lef y1) (ha : aP (f_MO_part (now y2) (nI g)) = nI a) :
    ∃ (z4 : Nat → Int32) (z5 : Int32) (z6 z7 z8 z12 : Nat → Int32), f_BC_boot_6 wl fw iw sl ms sc ch ru cn rg hh (n + 1) (nI g) y1 y2 y4 y5 y6 y7 y8 y9 y11 y12 = match (stg g a (now y2) y1 y2 cn).1 with
      | none => (2, 0, (stg g a (now y2) y1 y2 cn).2.1, (stg g a (now y2) y1 y2 cn).2.2, z4, z5, z6, z7, z8, off2 y9, zr 0 y11, z12)
      | some none => (0, nI (g + 1), (stg g a (now y2) y1 y2 cn).2.1, (stg g a (now y2) y1 y2 cn).2.2, z4, z5, z6, z7, z8, y9, y11, z12)
      | some (some x) => f_BC_boot_6 wl fw iw sl ms sc ch ru cn rg hh n (nI (g + 1)) (stg g a (now y2) y1 y2 cn).2.1 (stg g a (now y2) y1 y2 cn).2.2 z4 z5 z6 z7 z8 (upd y9 g (nI (2 * g + x))) (fld y11 (stg g a (now y2) y1 y2 cn).2.2 g (2 * g + x)) z12 := by
  rw [f_BC_boot_6, if_neg (by rw [le_lit (l := 2) (c := 2) rfl (by decide) (by omega)]; omega)]
  have hc := cstage hg h1 y1 y2 y4 y5 y6 y7 y8 cn y12 hl ha
  have hx1 : ∀ x, (stg g a (now y2) y1 y2 cn).1 = some (some x) → x ≤ 1 := fun x h => stg_le h1 h
  generalize f_BC_slotOnTrial (nI g) y1 y2 y4 y5 y6 y7 y8 cn y12 = u at hc ⊢
  obtain ⟨u1, u2, u3, u4, u5, u6, u7, u8, u9⟩ := u
  generalize stg g a (now y2) y1 y2 cn = o at hc hx1 ⊢
  obtain ⟨o1, o2, o3⟩ := o
  obtain ⟨e2, e3, hl2, hc⟩ := hc
  have e2' : u2 = o2 := e2
  have e3' : u3 = o3 := e3
  subst e2'; subst e3'
  unfold f_BC_boot_c2
  have j28 : ∀ (x2 : Int32) (z4 : Nat → Int32) (z5 : Int32) (z6 z7 z8 z12 : Nat → Int32) (o : Option Nat), x2 = slotv g o → (∀ x, o = some x → x ≤ 1) → ∃ (t4 : Nat → Int32) (t5 : Int32) (t6 t7 t8 t12 : Nat → Int32), f_BC_boot_j28 (f_BC_boot_6 wl fw iw sl ms sc ch ru cn rg hh n) wl fw iw sl ms sc ch ru cn rg hh (nI g) x2 u2 u3 z4 z5 z6 z7 z8 y9 y11 z12 = match (some o) with
      | none => (2, 0, u2, u3, t4, t5, t6, t7, t8, off2 y9, zr 0 y11, t12)
      | some none => (0, nI (g + 1), u2, u3, t4, t5, t6, t7, t8, y9, y11, t12)
      | some (some x) => f_BC_boot_6 wl fw iw sl ms sc ch ru cn rg hh n (nI (g + 1)) u2 u3 t4 t5 t6 t7 t8 (upd y9 g (nI (2 * g + x))) (fld y11 u3 g (2 * g + x)) t12 := by
    intro x2 z4 z5 z6 z7 z8 z12 o hx ho
    unfold f_BC_boot_j28
    cases o with
    | none =>
      have hx' : x2 = -1 := hx
      rw [if_neg (by rw [hx']; decide), if_pos hx', nI_1]
      exact ⟨z4, z5, z6, z7, z8, z12, rfl⟩
    | some x =>
      have hx' : x2 = nI (2 * g + x) := hx
      have hb := ho x rfl
      have hp : ¬ x2 < 0 := by rw [hx']; exact Int32.not_lt.mpr (nI_pos' (by omega))
      rw [if_neg (fun z => hp (by rw [z]; decide)), if_neg (fun z => hp (by rw [z]; decide)), hx']
      have hs := cstart (s := 2 * g + x) (g := g) (by omega) hg (sg := nI g) rfl u2 u3 z4 z5 z6 z7 z8 y9 y11 z12
      generalize f_BC_start (nI g) (nI (2 * g + x)) u2 u3 z4 z5 z6 z7 z8 y9 y11 z12 = v at hs ⊢
      obtain ⟨v1, v2, v3, v4, v5, v6, v7, v8⟩ := v
      have a1 : v6 = upd y9 g (nI (2 * g + x)) := hs.1
      have a2 : v7 = fld y11 u3 g (2 * g + x) := hs.2
      subst a1; subst a2
      unfold f_BC_boot_c4
      rw [nI_1]
      exact ⟨v1, v2, v3, v4, v5, v8, rfl⟩
  rcases hc with ⟨c1, c2⟩ | ⟨c1, c2, c3⟩ | ⟨c1, c2⟩
  · have c1' : o1 = none := c1
    have c2' : u1 = -2 := c2
    subst c1'; subst c2'
    dsimp only
    rw [if_neg (by decide)]
    unfold f_BC_boot_j28
    rw [if_pos rfl, toff]
    unfold f_BC_boot_c5
    exact ⟨u4, u5, u6, u7, u8, u9, rfl⟩
  · have c1' : o1 = some (pk2 g a u3 cn) := c1
    have c2' : u1 = -1 := c2
    subst c1'; subst c2'
    rw [if_pos rfl]
    have hw := cwithout hg h1 u2 u3 u4 u5 u6 u7 u8 cn u9 c3
    dsimp only at hw ⊢
    generalize f_BC_slotWithoutTrial (nI g) u2 u3 u4 u5 u6 u7 u8 cn u9 = v at hw ⊢
    unfold f_BC_boot_c3
    exact j28 v.1 v.2.1 v.2.2.1 v.2.2.2.1 v.2.2.2.2.1 v.2.2.2.2.2.1 v.2.2.2.2.2.2 (pk2 g a u3 cn) hw (fun x h => pk2_le h1 h)
  · have c1' : o1 = some (some (1 - a)) := c1
    have c2' : u1 = nI (2 * g + (1 - a)) := c2
    subst c1'
    have hp : ¬ u1 < 0 := by rw [c2']; exact Int32.not_lt.mpr (nI_pos' (by omega))
    dsimp only
    rw [if_neg (fun z => hp (by rw [z]; decide))]
    exact j28 u1 u4 u5 u6 u7 u8 u9 (some (1 - a)) c2' (fun x h => by have := Option.some.inj h; omega)
/-- what boot leaves on both sides -/
def BOut (c : Nat × Int32 × Int32 × (Nat → Int32) × (Nat → Int32) × Int32 × (Nat → Int32) × (Nat → Int32) × (Nat → Int32) × (Nat → Int32) × (Nat → Int32) × (Nat → Int32)) (r : Int32 × Int32 × Int32 × Int32 × Int32 × (Nat → Int64) × (Nat → Int64) × (Nat → Int64) × (Nat → Int64) × (Nat → Int32) × (Nat → Int32) × (Nat → Int32) × (Nat → Int32)) : Prop :=
  ∃ (k : Nat) (an wl : Int32) (fw z4 : Nat → Int32) (z5 : Int32) (z6 z7 z8 ru rg z12 : Nat → Int32) (bn th lo : Int32) (tx wi nw vv : Nat → Int64) (aw_ rn : Nat → Int32), c = (k, an, wl, fw, z4, z5, z6, z7, z8, ru, rg, z12) ∧ r = (bn, th, wl, lo, 0, tx, wi, nw, vv, aw_, fw, rn, rg) ∧ ((k = 0 ∧ th = 0 ∧ an = bn) ∨ (k = 2 ∧ th = 1)) ∧ lef wl ∧ runR ru rn
theorem up_ne {g j : Nat} {x : Int32} (f : Nat → Int32) (h : j ≠ g) : upd f g x j = f j := pk_un h
theorem a_of {st sg : Int32} (h : sg = 0 ∨ sg = 1) : ∃ a : Nat, a ≤ 1 ∧ aP (f_MO_part st sg) = nI a := by
  rcases ap_01 (st := st) h with e | e
  · exact ⟨0, by decide, e⟩
  · exact ⟨1, by decide, e⟩
theorem boot_rel (wl : Int32) (fw iw : Nat → Int32) (sl : Int32) (ms sc ch ru cn rg hh : Nat → Int32) (th lo da : Int32) {kc bg : Nat → Int64} (tx wi nw vv : Nat → Int64) (aw_ rn : Nat → Int32) (hkc : kcOk kc) (hbg : bgOk bg) (hl : lef wl) : BOut (f_BC_boot wl fw iw sl ms sc ch ru cn rg hh) (f_MO_boot th wl lo da 0 kc bg tx wi nw vv aw_ fw cn rn rg) := by
  unfold f_BC_boot f_BC_boot_c1 f_MO_boot f_MO_boot_c1
  rw [toff, moff]
  dsimp only
  obtain ⟨a, h1, ha⟩ := a_of (st := now fw) (sg := nI 0) (Or.inl rfl)
  obtain ⟨z4, z5, z6, z7, z8, z12, hc⟩ := cboot (g := 0) (by decide) h1 wl fw iw sl ms sc ch ru cn rg hh 2 wl fw iw sl ms sc ch (off2 ru) (zr 0 rg) hh hl ha
  have hr := rstage (g := 0) (by decide) h1 th wl da tx wi nw vv aw_ fw cn (off2 rn) (zr 0 rg) hkc hbg hl ha
  have hl0 := stg_lef (g := 0) (a := a) (st := now fw) (fw := fw) (cn := cn) hl
  have hs0 := mo_start0 (nI 0) th wl 0 da 0 kc bg tx wi nw vv aw_ fw cn (off2 rn) (zr 0 rg) rfl
  have hx0 : ∀ x, (stg 0 a (now fw) wl fw cn).1 = some (some x) → x ≤ 1 := fun x h => stg_le h1 h
  rw [show nI 0 = (0 : Int32) from rfl] at hc hr hs0
  rw [hc]
  generalize stg 0 a (now fw) wl fw cn = o at hr hl0 hx0 ⊢
  generalize f_MO_start 0 th wl 0 da 0 kc bg tx wi nw vv aw_ fw cn (off2 rn) (zr 0 rg) = u at hr hs0 ⊢
  obtain ⟨o1, o2, o3⟩ := o
  obtain ⟨u1, u2, u3, u4, u5, u6, u7, u8, u9, u10, u11, u12⟩ := u
  have hl0' : lef o2 := hl0
  have hs0' : u4 = 0 := hs0
  subst hs0'
  cases o1 with
  | none =>
    obtain ⟨r1, r2, r3, r4, r5, r6⟩ := hr
    have r1' : u1 = 0 := r1
    have r2' : u2 = o2 := r2
    have r3' : u3 = 1 := r3
    have r4' : u10 = o3 := r4
    have r5' : u11 = off2 rn := r5
    have r6' : u12 = zr 0 rg := r6
    subst r1' r2' r3' r4' r5' r6'
    unfold f_MO_boot_c2
    rw [if_pos rfl]
    unfold f_MO_boot_j34
    dsimp only
    rw [if_neg one0]
    unfold f_MO_boot_j48
    rw [if_neg one0, moff]
    unfold f_MO_boot_c4
    exact ⟨_, _, _, _, _, _, _, _, _, _, _, _, _, _, _, _, _, _, _, _, _, rfl, rfl, Or.inr ⟨rfl, rfl⟩, hl0', run_off _ _⟩
  | some p =>
    cases p with
    | none =>
      obtain ⟨r1, r2, r3, r4, r5, r6⟩ := hr
      have r1' : u1 = 0 := r1
      have r2' : u2 = o2 := r2
      have r3' : u3 = 0 := r3
      have r4' : u10 = o3 := r4
      have r5' : u11 = upd (off2 rn) 0 (-1) := r5
      have r6' : u12 = zr 0 rg := r6
      subst r1' r2' r3' r4' r5' r6'
      unfold f_MO_boot_c2
      rw [if_pos rfl]
      unfold f_MO_boot_j34
      dsimp only
      rw [if_pos rfl]
      unfold f_MO_boot_j48
      rw [if_pos rfl]
      exact ⟨_, _, _, _, _, _, _, _, _, _, _, _, _, _, _, _, _, _, _, _, _, rfl, rfl, Or.inl ⟨rfl, rfl, rfl⟩, hl0', Or.inl ⟨rfl, rfl⟩, Or.inl ⟨rfl, rfl⟩⟩
    | some x =>
      have hx := hx0 x rfl
      obtain ⟨r1, r2, r3, r4, r5, r6⟩ := hr
      have r1' : u1 = 1 := r1
      have r2' : u2 = o2 := r2
      have r3' : u3 = 0 := r3
      have r4' : u10 = o3 := r4
      have r5' : u11 = upd (off2 rn) 0 (nI x) := r5
      have r6' : u12 = fld (zr 0 rg) o3 0 (2 * 0 + x) := r6
      subst r1' r2' r3' r4' r5' r6'
      unfold f_MO_boot_c2
      rw [if_neg one0]
      dsimp only
      obtain ⟨b, h2, hb⟩ := a_of (st := now u10) (sg := nI 1) (Or.inr rfl)
      obtain ⟨t4, t5, t6, t7, t8, t12, hc2⟩ := cboot (g := 1) (by decide) h2 wl fw iw sl ms sc ch ru cn rg hh 1 u2 u10 z4 z5 z6 z7 z8 (upd (off2 ru) 0 (nI (2 * 0 + x))) (fld (zr 0 rg) u10 0 (2 * 0 + x)) z12 hl0' hb
      have hr2 := rstage (g := 1) (by decide) h2 th u2 da u5 u6 u7 u8 u9 u10 cn (upd (off2 rn) 0 (nI x)) (fld (zr 0 rg) u10 0 (2 * 0 + x)) hkc hbg hl0' hb
      have hl1 := stg_lef (g := 1) (a := b) (st := now u10) (fw := u10) (cn := cn) hl0'
      have hs1 := mo_start0 (nI 1) th u2 0 da 0 kc bg u5 u6 u7 u8 u9 u10 cn (upd (off2 rn) 0 (nI x)) (fld (zr 0 rg) u10 0 (2 * 0 + x)) rfl
      have hx1 : ∀ x, (stg 1 b (now u10) u2 u10 cn).1 = some (some x) → x ≤ 1 := fun x h => stg_le h2 h
      rw [show nI (0 + 1) = nI 1 from rfl, hc2]
      rw [show nI 1 = (1 : Int32) from rfl] at hr2 hs1
      generalize stg 1 b (now u10) u2 u10 cn = o at hr2 hl1 hx1 ⊢
      generalize f_MO_start 1 th u2 0 da 0 kc bg u5 u6 u7 u8 u9 u10 cn (upd (off2 rn) 0 (nI x)) (fld (zr 0 rg) u10 0 (2 * 0 + x)) = v at hr2 hs1 ⊢
      obtain ⟨o1, o2, o3⟩ := o
      obtain ⟨v1, v2, v3, v4, v5, v6, v7, v8, v9, v10, v11, v12⟩ := v
      have hl1' : lef o2 := hl1
      have hs1' : v4 = 0 := hs1
      subst hs1'
      unfold f_MO_boot_c3
      have run0 : ∀ (z y : Int32), run1 0 (upd (upd (off2 ru) 0 (nI (2 * 0 + x))) 1 z) (upd (upd (off2 rn) 0 (nI x)) 1 y) := fun z y => Or.inr ⟨x, hx, rfl, rfl⟩
      cases o1 with
      | none =>
        obtain ⟨r1, r2, r3, r4, r5, r6⟩ := hr2
        have r1' : v1 = 0 := r1
        have r2' : v2 = o2 := r2
        have r3' : v3 = 1 := r3
        have r4' : v10 = o3 := r4
        have r6' : v12 = fld (zr 0 rg) u10 0 (2 * 0 + x) := r6
        subst r1' r2' r3' r4' r6'
        rw [if_pos rfl]
        unfold f_MO_boot_j34
        dsimp only
        rw [if_neg one0]
        unfold f_MO_boot_j48
        rw [if_neg one0, moff]
        unfold f_MO_boot_c4
        exact ⟨_, _, _, _, _, _, _, _, _, _, _, _, _, _, _, _, _, _, _, _, _, rfl, rfl, Or.inr ⟨rfl, rfl⟩, hl1', run_off _ _⟩
      | some p =>
        cases p with
        | none =>
          obtain ⟨r1, r2, r3, r4, r5, r6⟩ := hr2
          have r1' : v1 = 0 := r1
          have r2' : v2 = o2 := r2
          have r3' : v3 = 0 := r3
          have r4' : v10 = o3 := r4
          have r5' : v11 = upd (upd (off2 rn) 0 (nI x)) 1 (-1) := r5
          have r6' : v12 = fld (zr 0 rg) u10 0 (2 * 0 + x) := r6
          subst r1' r2' r3' r4' r5' r6'
          rw [if_pos rfl]
          unfold f_MO_boot_j34
          dsimp only
          rw [if_pos rfl]
          unfold f_MO_boot_j48
          rw [if_pos rfl]
          exact ⟨_, _, _, _, _, _, _, _, _, _, _, _, _, _, _, _, _, _, _, _, _, rfl, rfl, Or.inl ⟨rfl, rfl, rfl⟩, hl1', Or.inr ⟨x, hx, rfl, rfl⟩, Or.inl ⟨rfl, rfl⟩⟩
        | some y =>
          have hy := hx1 y rfl
          obtain ⟨r1, r2, r3, r4, r5, r6⟩ := hr2
          have r1' : v1 = 1 := r1
          have r2' : v2 = o2 := r2
          have r3' : v3 = 0 := r3
          have r4' : v10 = o3 := r4
          have r5' : v11 = upd (upd (off2 rn) 0 (nI x)) 1 (nI y) := r5
          have r6' : v12 = fld (fld (zr 0 rg) u10 0 (2 * 0 + x)) o3 1 (2 * 1 + y) := r6
          subst r1' r2' r3' r4' r5' r6'
          rw [if_neg one0]
          unfold f_MO_boot_j34
          dsimp only
          rw [if_pos rfl]
          unfold f_MO_boot_j48
          rw [if_pos rfl]
          rw [f_BC_boot_6, if_pos (by decide)]
          exact ⟨_, _, _, _, _, _, _, _, _, _, _, _, _, _, _, _, _, _, _, _, _, rfl, rfl, Or.inl ⟨rfl, rfl, rfl⟩, hl1', run0 _ _, Or.inr ⟨y, hy, rfl, rfl⟩⟩

