/-! What holds between the class's object and the reference's, between two calls of the law. -/
def lwR (wl dl : Int32) (fw dw ru cn rg : Nat → Int32) (le da si : Int32) (fl kn rn gr dr : Nat → Int32) (kc bg : Nat → Int64) : Prop := le = wl ∧ fl = fw ∧ kn = cn ∧ gr = rg ∧ si = 0 ∧ kcOk kc ∧ bgOk bg ∧ lef wl ∧ runR ru rn ∧ draftR dl da dw dr
theorem lwR_dl {wl dl : Int32} {fw dw ru cn rg : Nat → Int32} {le da si : Int32} {fl kn rn gr dr : Nat → Int32} {kc bg : Nat → Int64} (h : lwR wl dl fw dw ru cn rg le da si fl kn rn gr dr kc bg) : 0 ≤ dl := by
  obtain ⟨-, -, -, -, -, -, -, -, -, d, bt, h1, h2, -⟩ := h
  rw [h2]
  exact nI_pos' (by omega)
theorem lwR_da {wl dl : Int32} {fw dw ru cn rg : Nat → Int32} {le da si : Int32} {fl kn rn gr dr : Nat → Int32} {kc bg : Nat → Int64} (h : lwR wl dl fw dw ru cn rg le da si fl kn rn gr dr kc bg) : 0 ≤ da ∧ da ≤ 24 := by
  obtain ⟨-, -, -, -, -, -, -, -, -, d, bt, h1, h2, h3, -⟩ := h
  rw [h3]
  exact ⟨nI_pos' (by omega), by rw [show (24 : Int32) = nI 24 from rfl, nI_leI (by omega) (by decide)]; exact h1⟩
theorem lwR_si {wl dl : Int32} {fw dw ru cn rg : Nat → Int32} {le da si : Int32} {fl kn rn gr dr : Nat → Int32} {kc bg : Nat → Int64} (h : lwR wl dl fw dw ru cn rg le da si fl kn rn gr dr kc bg) : si = 0 := h.2.2.2.2.1
theorem run1_ok {g : Nat} (hg : g < 2) {ru rn : Nat → Int32} (h : run1 g ru rn) : (ru g = -1 ∨ (0 ≤ ru g ∧ ru g < 4)) ∧ (rn g = -1 ∨ a01 (rn g)) := by
  rcases h with ⟨a, c⟩ | ⟨x, hx, a, c⟩
  · exact ⟨Or.inl c, Or.inl a⟩
  · refine ⟨Or.inr ⟨by rw [c]; exact nI_pos' (by omega), by rw [c, show (4 : Int32) = nI 4 from rfl, nI_ltI (by omega) (by decide)]; omega⟩, Or.inr ?_⟩
    rw [a]
    have : x = 0 ∨ x = 1 := by omega
    rcases this with rfl | rfl
    · exact Or.inl rfl
    · exact Or.inr rfl
theorem lwR_rv {wl dl : Int32} {fw dw ru cn rg : Nat → Int32} {le da si : Int32} {fl kn rn gr dr : Nat → Int32} {kc bg : Nat → Int64} (h : lwR wl dl fw dw ru cn rg le da si fl kn rn gr dr kc bg) : run_ok ru := by
  obtain ⟨-, -, -, -, -, -, -, -, hr, -⟩ := h
  exact ⟨(run1_ok (by decide) hr.1).1, (run1_ok (by decide) hr.2).1⟩
theorem lwR_mr {wl dl : Int32} {fw dw ru cn rg : Nat → Int32} {le da si : Int32} {fl kn rn gr dr : Nat → Int32} {kc bg : Nat → Int64} (h : lwR wl dl fw dw ru cn rg le da si fl kn rn gr dr kc bg) : mrun rn := by
  obtain ⟨-, -, -, -, -, -, -, -, hr, -⟩ := h
  exact ⟨(run1_ok (by decide) hr.1).2, (run1_ok (by decide) hr.2).2⟩
theorem lg_same (x : Int64) : lg_cmp x x = 0 := by
  unfold lg_cmp
  rw [if_neg (by simp [gt_iff_lt, Int64.lt_irrefl]), if_pos rfl]
theorem lwA_0 {k : Nat} (h : lwA k = 0) : k = 0 := by
  unfold lwA at h
  by_cases h0 : k = 0
  · exact h0
  · rw [if_neg h0] at h
    by_cases h1 : k = 1
    · rw [if_pos h1] at h; exact absurd h one0
    · rw [if_neg h1] at h; exact absurd h (by decide)
theorem lwS_0 {k : Nat} (h : lwS k = 0) : k = 0 := by
  unfold lwS at h
  by_cases h0 : k = 0
  · exact h0
  · rw [if_neg h0] at h
    by_cases h1 : k = 2
    · rw [if_pos h1] at h; exact absurd h one0
    · rw [if_neg h1] at h; exact absurd h (by decide)
theorem lw_cmp {k : Nat} {a b : Int32} {ov : Nat → Int64} (h : k = 0 → a = b) (hk : k = 0) : lg_cmp ((lw_o k a ov) ((0 : Int32)).toNatClampNeg) (b.toInt64) = 0 := by
  rw [lw_o_0 hk, pk_uLs, h hk, lg_same]
theorem lw_ansA {k : Nat} {a b : Int32} {ov : Nat → Int64} (h : k = 0 → a = b) : lwA k = 0 → lg_cmp ((lw_o k a ov) ((0 : Int32)).toNatClampNeg) (b.toInt64) = 0 := fun z => lw_cmp h (lwA_0 z)
theorem lw_ansS {k : Nat} {a b : Int32} {ov : Nat → Int64} (h : k = 0 → a = b) : lwS k = 0 → lg_cmp ((lw_o k a ov) ((0 : Int32)).toNatClampNeg) (b.toInt64) = 0 := fun z => lw_cmp h (lwS_0 z)
theorem lw_01 {k : Nat} {t a b : Int32} (h : (k = 0 ∧ t = 0 ∧ a = b) ∨ (k = 1 ∧ t = 1)) : (k = 0 ∨ k = 1) ∧ t = lwA k ∧ (k = 0 → a = b) := by
  rcases h with ⟨h1, h2, h3⟩ | ⟨h1, h2⟩
  · exact ⟨Or.inl h1, by rw [h1, h2]; rfl, fun _ => h3⟩
  · exact ⟨Or.inr h1, by rw [h1, h2]; rfl, fun z => absurd (h1.symm.trans z) (by decide)⟩
theorem lw_012 {k : Nat} {t a b : Int32} (h : (k = 0 ∧ t = 0 ∧ a = b) ∨ (k = 1 ∧ t = 1) ∨ (k = 2 ∧ t = 2)) : (k = 0 ∨ k = 1 ∨ k = 2) ∧ t = lwA k ∧ (k = 0 → a = b) := by
  rcases h with ⟨h1, h2, h3⟩ | ⟨h1, h2⟩ | ⟨h1, h2⟩
  · exact ⟨Or.inl h1, by rw [h1, h2]; rfl, fun _ => h3⟩
  · exact ⟨Or.inr (Or.inl h1), by rw [h1, h2]; rfl, fun z => absurd (h1.symm.trans z) (by decide)⟩
  · exact ⟨Or.inr (Or.inr h1), by rw [h1, h2]; rfl, fun z => absurd (h1.symm.trans z) (by decide)⟩
theorem lf_payload (wl : Int32) (fw : Nat → Int32) (dl : Int32) (dw : Nat → Int32) (iw : Nat → Int32) (sl : Int32) (ms : Nat → Int32) (sc : Nat → Int32) (ch : Nat → Int32) (ru : Nat → Int32) (cn : Nat → Int32) (rg : Nat → Int32) (hh : Nat → Int32) (th : Int32) (le : Int32) (lo : Int32) (da : Int32) (si : Int32) (fl : Nat → Int32) (kn : Nat → Int32) (rn : Nat → Int32) (gr : Nat → Int32) (dr : Nat → Int32) (kc : Nat → Int64) (bg : Nat → Int64) (tx : Nat → Int64) (wi : Nat → Int64) (nw : Nat → Int64) (vv : Nat → Int64) (wa : Nat → Int32) (ov : Nat → Int64) (x1 : Int32) (x2 : Int32) (x3 : Int32) (hR : lwR wl dl fw dw ru cn rg le da si fl kn rn gr dr kc bg) : ((f_BC_payload ((jsl ((x1).toInt64) (32 : Int32)) ||| (((x2).toInt64) &&& (4294967295 : Int64))) x3 dl dw).1 = 0 ∨ (f_BC_payload ((jsl ((x1).toInt64) (32 : Int32)) ||| (((x2).toInt64) &&& (4294967295 : Int64))) x3 dl dw).1 = 1 ∨ (f_BC_payload ((jsl ((x1).toInt64) (32 : Int32)) ||| (((x2).toInt64) &&& (4294967295 : Int64))) x3 dl dw).1 = 2) ∧ (((f_MO_payload ((jsl ((x1).toInt64) (32 : Int32)) ||| (((x2).toInt64) &&& (4294967295 : Int64))) x3 th le lo da si dr).1)) = lwA (f_BC_payload ((jsl ((x1).toInt64) (32 : Int32)) ||| (((x2).toInt64) &&& (4294967295 : Int64))) x3 dl dw).1 ∧ lwR wl ((f_BC_payload ((jsl ((x1).toInt64) (32 : Int32)) ||| (((x2).toInt64) &&& (4294967295 : Int64))) x3 dl dw).2.1) fw ((f_BC_payload ((jsl ((x1).toInt64) (32 : Int32)) ||| (((x2).toInt64) &&& (4294967295 : Int64))) x3 dl dw).2.2) ru cn rg le (((f_MO_payload ((jsl ((x1).toInt64) (32 : Int32)) ||| (((x2).toInt64) &&& (4294967295 : Int64))) x3 th le lo da si dr).2.1)) si fl kn rn gr (((f_MO_payload ((jsl ((x1).toInt64) (32 : Int32)) ||| (((x2).toInt64) &&& (4294967295 : Int64))) x3 th le lo da si dr).2.2)) kc bg := by
  obtain ⟨e1, e2, e3, e4, e5, hkc, hbg, hl, hr, hd⟩ := hR
  obtain ⟨h1, h2⟩ := payload_rel ((jsl ((x1).toInt64) (32 : Int32)) ||| (((x2).toInt64) &&& (4294967295 : Int64))) x3 dl dw th le lo da si dr hd
  have h3 := lw_012 (a := 0) (b := 0) (by
    rcases h1 with ⟨a, c⟩ | ⟨a, c⟩ | ⟨a, c⟩
    · exact Or.inl ⟨a, c, rfl⟩
    · exact Or.inr (Or.inl ⟨a, c⟩)
    · exact Or.inr (Or.inr ⟨a, c⟩))
  exact ⟨h3.1, h3.2.1, e1, e2, e3, e4, e5, hkc, hbg, hl, hr, h2⟩

theorem lf_update (wl : Int32) (fw : Nat → Int32) (dl : Int32) (dw : Nat → Int32) (iw : Nat → Int32) (sl : Int32) (ms : Nat → Int32) (sc : Nat → Int32) (ch : Nat → Int32) (ru : Nat → Int32) (cn : Nat → Int32) (rg : Nat → Int32) (hh : Nat → Int32) (th : Int32) (le : Int32) (lo : Int32) (da : Int32) (si : Int32) (fl : Nat → Int32) (kn : Nat → Int32) (rn : Nat → Int32) (gr : Nat → Int32) (dr : Nat → Int32) (kc : Nat → Int64) (bg : Nat → Int64) (tx : Nat → Int64) (wi : Nat → Int64) (nw : Nat → Int64) (vv : Nat → Int64) (wa : Nat → Int32) (ov : Nat → Int64) (x1 : Int32) (x2 : Int32) (x3 : Int32) (hR : lwR wl dl fw dw ru cn rg le da si fl kn rn gr dr kc bg) : ((f_BC_update x1 x2 x3 wl fw dl dw iw sl ms sc ch ru rg hh).1 = 0 ∨ (f_BC_update x1 x2 x3 wl fw dl dw iw sl ms sc ch ru rg hh).1 = 1 ∨ (f_BC_update x1 x2 x3 wl fw dl dw iw sl ms sc ch ru rg hh).1 = 2) ∧ (((f_MO_update x1 x2 x3 th le lo da si kc bg tx wi nw vv wa dr fl rn gr).2.1)) = lwA (f_BC_update x1 x2 x3 wl fw dl dw iw sl ms sc ch ru rg hh).1 ∧ ((lwA (f_BC_update x1 x2 x3 wl fw dl dw iw sl ms sc ch ru rg hh).1) = 0 → lg_cmp ((lw_o (f_BC_update x1 x2 x3 wl fw dl dw iw sl ms sc ch ru rg hh).1 ((f_BC_update x1 x2 x3 wl fw dl dw iw sl ms sc ch ru rg hh).2.1) ov) ((0 : Int32)).toNatClampNeg) ((((f_MO_update x1 x2 x3 th le lo da si kc bg tx wi nw vv wa dr fl rn gr).1)).toInt64) = 0) ∧ lwR ((f_BC_update x1 x2 x3 wl fw dl dw iw sl ms sc ch ru rg hh).2.2.1) ((f_BC_update x1 x2 x3 wl fw dl dw iw sl ms sc ch ru rg hh).2.2.2.2.1) ((f_BC_update x1 x2 x3 wl fw dl dw iw sl ms sc ch ru rg hh).2.2.2.1) ((f_BC_update x1 x2 x3 wl fw dl dw iw sl ms sc ch ru rg hh).2.2.2.2.2.1) ((f_BC_update x1 x2 x3 wl fw dl dw iw sl ms sc ch ru rg hh).2.2.2.2.2.2.2.2.2.2.2.1) cn ((f_BC_update x1 x2 x3 wl fw dl dw iw sl ms sc ch ru rg hh).2.2.2.2.2.2.2.2.2.2.2.2.1) (((f_MO_update x1 x2 x3 th le lo da si kc bg tx wi nw vv wa dr fl rn gr).2.2.1)) (((f_MO_update x1 x2 x3 th le lo da si kc bg tx wi nw vv wa dr fl rn gr).2.2.2.2.1)) (((f_MO_update x1 x2 x3 th le lo da si kc bg tx wi nw vv wa dr fl rn gr).2.2.2.2.2.1)) (((f_MO_update x1 x2 x3 th le lo da si kc bg tx wi nw vv wa dr fl rn gr).2.2.2.2.2.2.2.2.2.2.2.1)) kn (((f_MO_update x1 x2 x3 th le lo da si kc bg tx wi nw vv wa dr fl rn gr).2.2.2.2.2.2.2.2.2.2.2.2.1)) (((f_MO_update x1 x2 x3 th le lo da si kc bg tx wi nw vv wa dr fl rn gr).2.2.2.2.2.2.2.2.2.2.2.2.2)) dr kc bg := by
  obtain ⟨e1, e2, e3, e4, e5, hkc, hbg, hl, hr, hd⟩ := hR
  subst e1 e2 e3 e4 e5
  obtain ⟨k, an, wl', fw', dw', z6, z7, z8, z9, z10, ru', rg', z13, bn, th', lo', tx', wi', nw', vv', aw', rn', c1, c2, c3, c4, c5, c6⟩ := update_rel x1 x2 x3 le fl dl dw iw sl ms sc ch ru gr hh th lo da tx wi nw vv wa dr rn hkc hbg hl hr hd
  rw [c1, c2]
  have h3 := lw_012 c3
  exact ⟨h3.1, h3.2.1, lw_ansA h3.2.2, rfl, rfl, rfl, rfl, rfl, hkc, hbg, c4, c5, draft_0 dr c6⟩

theorem lf_power (wl : Int32) (fw : Nat → Int32) (dl : Int32) (dw : Nat → Int32) (iw : Nat → Int32) (sl : Int32) (ms : Nat → Int32) (sc : Nat → Int32) (ch : Nat → Int32) (ru : Nat → Int32) (cn : Nat → Int32) (rg : Nat → Int32) (hh : Nat → Int32) (th : Int32) (le : Int32) (lo : Int32) (da : Int32) (si : Int32) (fl : Nat → Int32) (kn : Nat → Int32) (rn : Nat → Int32) (gr : Nat → Int32) (dr : Nat → Int32) (kc : Nat → Int64) (bg : Nat → Int64) (tx : Nat → Int64) (wi : Nat → Int64) (nw : Nat → Int64) (vv : Nat → Int64) (wa : Nat → Int32) (ov : Nat → Int64) (x1 : Int32) (hR : lwR wl dl fw dw ru cn rg le da si fl kn rn gr dr kc bg) : ((f_BC_power x1 wl fw).1 = 0 ∨ (f_BC_power x1 wl fw).1 = 1) ∧ (((f_MO_power x1 th le lo da si).1)) = lwA (f_BC_power x1 wl fw).1 ∧ lwR ((f_BC_power x1 wl fw).2) dl fw dw ru cn rg (((f_MO_power x1 th le lo da si).2)) da si fl kn rn gr dr kc bg := by
  obtain ⟨e1, e2, e3, e4, e5, hkc, hbg, hl, hr, hd⟩ := hR
  subst e1
  obtain ⟨h1, h2⟩ := power_rel x1 le fw th lo da si
  rcases h1 with ⟨a, c, d⟩ | ⟨a, c, d⟩
  · exact ⟨Or.inl a, by rw [a, c]; rfl, h2, e2, e3, e4, e5, hkc, hbg, d, hr, hd⟩
  · exact ⟨Or.inr a, by rw [a, c]; rfl, h2, e2, e3, e4, e5, hkc, hbg, by rw [d]; exact hl, hr, hd⟩

theorem lf_boot (wl : Int32) (fw : Nat → Int32) (dl : Int32) (dw : Nat → Int32) (iw : Nat → Int32) (sl : Int32) (ms : Nat → Int32) (sc : Nat → Int32) (ch : Nat → Int32) (ru : Nat → Int32) (cn : Nat → Int32) (rg : Nat → Int32) (hh : Nat → Int32) (th : Int32) (le : Int32) (lo : Int32) (da : Int32) (si : Int32) (fl : Nat → Int32) (kn : Nat → Int32) (rn : Nat → Int32) (gr : Nat → Int32) (dr : Nat → Int32) (kc : Nat → Int64) (bg : Nat → Int64) (tx : Nat → Int64) (wi : Nat → Int64) (nw : Nat → Int64) (vv : Nat → Int64) (wa : Nat → Int32) (ov : Nat → Int64) (hR : lwR wl dl fw dw ru cn rg le da si fl kn rn gr dr kc bg) : ((f_BC_boot wl fw iw sl ms sc ch ru cn rg hh).1 = 0 ∨ (f_BC_boot wl fw iw sl ms sc ch ru cn rg hh).1 = 2) ∧ (((f_MO_boot th le lo da si kc bg tx wi nw vv wa fl kn rn gr).2.1)) = lwS (f_BC_boot wl fw iw sl ms sc ch ru cn rg hh).1 ∧ ((lwS (f_BC_boot wl fw iw sl ms sc ch ru cn rg hh).1) = 0 → lg_cmp ((lw_o (f_BC_boot wl fw iw sl ms sc ch ru cn rg hh).1 ((f_BC_boot wl fw iw sl ms sc ch ru cn rg hh).2.1) ov) ((0 : Int32)).toNatClampNeg) ((((f_MO_boot th le lo da si kc bg tx wi nw vv wa fl kn rn gr).1)).toInt64) = 0) ∧ lwR ((f_BC_boot wl fw iw sl ms sc ch ru cn rg hh).2.2.1) dl ((f_BC_boot wl fw iw sl ms sc ch ru cn rg hh).2.2.2.1) dw ((f_BC_boot wl fw iw sl ms sc ch ru cn rg hh).2.2.2.2.2.2.2.2.2.1) cn ((f_BC_boot wl fw iw sl ms sc ch ru cn rg hh).2.2.2.2.2.2.2.2.2.2.1) (((f_MO_boot th le lo da si kc bg tx wi nw vv wa fl kn rn gr).2.2.1)) da (((f_MO_boot th le lo da si kc bg tx wi nw vv wa fl kn rn gr).2.2.2.2.1)) (((f_MO_boot th le lo da si kc bg tx wi nw vv wa fl kn rn gr).2.2.2.2.2.2.2.2.2.2.1)) kn (((f_MO_boot th le lo da si kc bg tx wi nw vv wa fl kn rn gr).2.2.2.2.2.2.2.2.2.2.2.1)) (((f_MO_boot th le lo da si kc bg tx wi nw vv wa fl kn rn gr).2.2.2.2.2.2.2.2.2.2.2.2)) dr kc bg := by
  obtain ⟨e1, e2, e3, e4, e5, hkc, hbg, hl, hr, hd⟩ := hR
  subst e1 e2 e3 e4 e5
  obtain ⟨k, an, wl', fw', z4, z5, z6, z7, z8, ru', rg', z12, bn, th', lo', tx', wi', nw', vv', aw', rn', c1, c2, c3, c4, c5⟩ := boot_rel le fl iw sl ms sc ch ru kn gr hh th lo da tx wi nw vv wa rn hkc hbg hl
  rw [c1, c2]
  have h3 : (k = 0 ∨ k = 2) ∧ th' = lwS k ∧ (k = 0 → an = bn) := by
    rcases c3 with ⟨a, c, d⟩ | ⟨a, c⟩
    · exact ⟨Or.inl a, by rw [a, c]; rfl, fun _ => d⟩
    · exact ⟨Or.inr a, by rw [a, c]; rfl, fun z => absurd (a.symm.trans z) (by decide)⟩
  exact ⟨h3.1, h3.2.1, lw_ansS h3.2.2, rfl, rfl, rfl, rfl, rfl, hkc, hbg, c4, c5, hd⟩

theorem lf_confirm (wl : Int32) (fw : Nat → Int32) (dl : Int32) (dw : Nat → Int32) (iw : Nat → Int32) (sl : Int32) (ms : Nat → Int32) (sc : Nat → Int32) (ch : Nat → Int32) (ru : Nat → Int32) (cn : Nat → Int32) (rg : Nat → Int32) (hh : Nat → Int32) (th : Int32) (le : Int32) (lo : Int32) (da : Int32) (si : Int32) (fl : Nat → Int32) (kn : Nat → Int32) (rn : Nat → Int32) (gr : Nat → Int32) (dr : Nat → Int32) (kc : Nat → Int64) (bg : Nat → Int64) (tx : Nat → Int64) (wi : Nat → Int64) (nw : Nat → Int64) (vv : Nat → Int64) (wa : Nat → Int32) (ov : Nat → Int64) (hR : lwR wl dl fw dw ru cn rg le da si fl kn rn gr dr kc bg) : ((f_BC_confirm wl fw ru cn rg).1 = 0 ∨ (f_BC_confirm wl fw ru cn rg).1 = 2 ∨ (f_BC_confirm wl fw ru cn rg).1 = 3) ∧ (((f_MO_confirm th le lo da si fl kn rn gr).1)) = lwS (f_BC_confirm wl fw ru cn rg).1 ∧ lwR ((f_BC_confirm wl fw ru cn rg).2.1) dl ((f_BC_confirm wl fw ru cn rg).2.2.1) dw ((f_BC_confirm wl fw ru cn rg).2.2.2.1) ((f_BC_confirm wl fw ru cn rg).2.2.2.2.1) ((f_BC_confirm wl fw ru cn rg).2.2.2.2.2) (((f_MO_confirm th le lo da si fl kn rn gr).2.1)) da si (((f_MO_confirm th le lo da si fl kn rn gr).2.2.2.1)) (((f_MO_confirm th le lo da si fl kn rn gr).2.2.2.2.1)) (((f_MO_confirm th le lo da si fl kn rn gr).2.2.2.2.2.1)) (((f_MO_confirm th le lo da si fl kn rn gr).2.2.2.2.2.2)) dr kc bg := by
  obtain ⟨e1, e2, e3, e4, e5, hkc, hbg, hl, hr, hd⟩ := hR
  subst e1 e2 e3 e4
  obtain ⟨k, wl', fw', ru', cn', rg', th', lo', rn', c1, c2, c3, c4, c5⟩ := confirm_rel le fl ru kn gr rn th lo da si hl hr
  rw [c1, c2]
  have h3 : (k = 0 ∨ k = 2 ∨ k = 3) ∧ th' = lwS k := by
    rcases c3 with ⟨a, c⟩ | ⟨a, c⟩ | ⟨a, c⟩
    · exact ⟨Or.inl a, by rw [a, c]; rfl⟩
    · exact ⟨Or.inr (Or.inl a), by rw [a, c]; rfl⟩
    · exact ⟨Or.inr (Or.inr a), by rw [a, c]; rfl⟩
  exact ⟨h3.1, h3.2, rfl, rfl, rfl, rfl, e5, hkc, hbg, c4, c5, hd⟩

theorem lf_runs (wl : Int32) (fw : Nat → Int32) (dl : Int32) (dw : Nat → Int32) (iw : Nat → Int32) (sl : Int32) (ms : Nat → Int32) (sc : Nat → Int32) (ch : Nat → Int32) (ru : Nat → Int32) (cn : Nat → Int32) (rg : Nat → Int32) (hh : Nat → Int32) (th : Int32) (le : Int32) (lo : Int32) (da : Int32) (si : Int32) (fl : Nat → Int32) (kn : Nat → Int32) (rn : Nat → Int32) (gr : Nat → Int32) (dr : Nat → Int32) (kc : Nat → Int64) (bg : Nat → Int64) (tx : Nat → Int64) (wi : Nat → Int64) (nw : Nat → Int64) (vv : Nat → Int64) (wa : Nat → Int32) (ov : Nat → Int64) (x1 : Int32) (hR : lwR wl dl fw dw ru cn rg le da si fl kn rn gr dr kc bg) : ((f_BC_runs x1 ru).1 = 0 ∨ (f_BC_runs x1 ru).1 = 1) ∧ (((f_MO_runs x1 th le lo da si rn).2)) = lwA (f_BC_runs x1 ru).1 ∧ ((lwA (f_BC_runs x1 ru).1) = 0 → lg_cmp ((lw_o (f_BC_runs x1 ru).1 ((f_BC_runs x1 ru).2) ov) ((0 : Int32)).toNatClampNeg) ((((f_MO_runs x1 th le lo da si rn).1)).toInt64) = 0) ∧ lwR wl dl fw dw ru cn rg le da si fl kn rn gr dr kc bg := by
  have h3 := lw_01 (runs_rel x1 ru rn th le lo da si hR.2.2.2.2.2.2.2.2.1)
  exact ⟨h3.1, h3.2.1, lw_ansA h3.2.2, hR⟩

theorem lf_spoil (wl : Int32) (fw : Nat → Int32) (dl : Int32) (dw : Nat → Int32) (iw : Nat → Int32) (sl : Int32) (ms : Nat → Int32) (sc : Nat → Int32) (ch : Nat → Int32) (ru : Nat → Int32) (cn : Nat → Int32) (rg : Nat → Int32) (hh : Nat → Int32) (th : Int32) (le : Int32) (lo : Int32) (da : Int32) (si : Int32) (fl : Nat → Int32) (kn : Nat → Int32) (rn : Nat → Int32) (gr : Nat → Int32) (dr : Nat → Int32) (kc : Nat → Int64) (bg : Nat → Int64) (tx : Nat → Int64) (wi : Nat → Int64) (nw : Nat → Int64) (vv : Nat → Int64) (wa : Nat → Int32) (ov : Nat → Int64) (x1 : Int32) (x2 : Int32) (x3 : Int32) (hR : lwR wl dl fw dw ru cn rg le da si fl kn rn gr dr kc bg) : ((f_BC_spoil x1 x2 x3 wl fw).1 = 0 ∨ (f_BC_spoil x1 x2 x3 wl fw).1 = 1) ∧ (((f_MO_spoil x1 x2 x3 th le lo da si fl).1)) = lwA (f_BC_spoil x1 x2 x3 wl fw).1 ∧ lwR wl dl ((f_BC_spoil x1 x2 x3 wl fw).2) dw ru cn rg le da si (((f_MO_spoil x1 x2 x3 th le lo da si fl).2)) kn rn gr dr kc bg := by
  obtain ⟨e1, e2, e3, e4, e5, hkc, hbg, hl, hr, hd⟩ := hR
  subst e2
  obtain ⟨h1, h2⟩ := spoil_rel x1 x2 x3 wl fl th le lo da si
  have h3 := lw_01 (a := 0) (b := 0) (by
    rcases h1 with ⟨a, c⟩ | ⟨a, c⟩
    · exact Or.inl ⟨a, c, rfl⟩
    · exact Or.inr ⟨a, c⟩)
  exact ⟨h3.1, h3.2.1, e1, h2, e3, e4, e5, hkc, hbg, hl, hr, hd⟩

theorem lf_flash (wl : Int32) (fw : Nat → Int32) (dl : Int32) (dw : Nat → Int32) (iw : Nat → Int32) (sl : Int32) (ms : Nat → Int32) (sc : Nat → Int32) (ch : Nat → Int32) (ru : Nat → Int32) (cn : Nat → Int32) (rg : Nat → Int32) (hh : Nat → Int32) (th : Int32) (le : Int32) (lo : Int32) (da : Int32) (si : Int32) (fl : Nat → Int32) (kn : Nat → Int32) (rn : Nat → Int32) (gr : Nat → Int32) (dr : Nat → Int32) (kc : Nat → Int64) (bg : Nat → Int64) (tx : Nat → Int64) (wi : Nat → Int64) (nw : Nat → Int64) (vv : Nat → Int64) (wa : Nat → Int32) (ov : Nat → Int64) (x1 : Int32) (x2 : Int32) (hR : lwR wl dl fw dw ru cn rg le da si fl kn rn gr dr kc bg) : ((f_BC_flash x1 x2 wl fw).1 = 0 ∨ (f_BC_flash x1 x2 wl fw).1 = 1) ∧ (((f_MO_flash x1 x2 th le lo da si fl).2)) = lwA (f_BC_flash x1 x2 wl fw).1 ∧ ((lwA (f_BC_flash x1 x2 wl fw).1) = 0 → lg_cmp ((lw_o (f_BC_flash x1 x2 wl fw).1 ((f_BC_flash x1 x2 wl fw).2) ov) ((0 : Int32)).toNatClampNeg) ((((f_MO_flash x1 x2 th le lo da si fl).1)).toInt64) = 0) ∧ lwR wl dl fw dw ru cn rg le da si fl kn rn gr dr kc bg := by
  have h4 := flash_rel x1 x2 wl fw th le lo da si
  rw [← hR.2.1] at h4 ⊢
  have h3 := lw_01 h4
  exact ⟨h3.1, h3.2.1, lw_ansA h3.2.2, hR.1, rfl, hR.2.2⟩

theorem lf_state (wl : Int32) (fw : Nat → Int32) (dl : Int32) (dw : Nat → Int32) (iw : Nat → Int32) (sl : Int32) (ms : Nat → Int32) (sc : Nat → Int32) (ch : Nat → Int32) (ru : Nat → Int32) (cn : Nat → Int32) (rg : Nat → Int32) (hh : Nat → Int32) (th : Int32) (le : Int32) (lo : Int32) (da : Int32) (si : Int32) (fl : Nat → Int32) (kn : Nat → Int32) (rn : Nat → Int32) (gr : Nat → Int32) (dr : Nat → Int32) (kc : Nat → Int64) (bg : Nat → Int64) (tx : Nat → Int64) (wi : Nat → Int64) (nw : Nat → Int64) (vv : Nat → Int64) (wa : Nat → Int32) (ov : Nat → Int64) (hR : lwR wl dl fw dw ru cn rg le da si fl kn rn gr dr kc bg) : ((f_BC_state wl fw)) = (((f_MO_state th le lo da si fl).1)) ∧ lwR wl dl fw dw ru cn rg le da si fl kn rn gr dr kc bg := by
  refine ⟨?_, hR⟩
  rw [hR.2.1]
  exact (state_rel wl fw th le lo da si).1

theorem lf_counter (wl : Int32) (fw : Nat → Int32) (dl : Int32) (dw : Nat → Int32) (iw : Nat → Int32) (sl : Int32) (ms : Nat → Int32) (sc : Nat → Int32) (ch : Nat → Int32) (ru : Nat → Int32) (cn : Nat → Int32) (rg : Nat → Int32) (hh : Nat → Int32) (th : Int32) (le : Int32) (lo : Int32) (da : Int32) (si : Int32) (fl : Nat → Int32) (kn : Nat → Int32) (rn : Nat → Int32) (gr : Nat → Int32) (dr : Nat → Int32) (kc : Nat → Int64) (bg : Nat → Int64) (tx : Nat → Int64) (wi : Nat → Int64) (nw : Nat → Int64) (vv : Nat → Int64) (wa : Nat → Int32) (ov : Nat → Int64) (x1 : Int32) (hR : lwR wl dl fw dw ru cn rg le da si fl kn rn gr dr kc bg) : ((f_BC_counter x1 cn).1 = 0 ∨ (f_BC_counter x1 cn).1 = 1) ∧ (((f_MO_counter x1 th le lo da si kn).2)) = lwA (f_BC_counter x1 cn).1 ∧ ((lwA (f_BC_counter x1 cn).1) = 0 → lg_cmp ((lw_o (f_BC_counter x1 cn).1 ((f_BC_counter x1 cn).2) ov) ((0 : Int32)).toNatClampNeg) ((((f_MO_counter x1 th le lo da si kn).1)).toInt64) = 0) ∧ lwR wl dl fw dw ru cn rg le da si fl kn rn gr dr kc bg := by
  have h4 := counter_rel x1 cn th le lo da si
  rw [← hR.2.2.1] at h4 ⊢
  have h3 := lw_01 h4
  exact ⟨h3.1, h3.2.1, lw_ansA h3.2.2, hR.1, hR.2.1, rfl, hR.2.2.2⟩

theorem lf_register (wl : Int32) (fw : Nat → Int32) (dl : Int32) (dw : Nat → Int32) (iw : Nat → Int32) (sl : Int32) (ms : Nat → Int32) (sc : Nat → Int32) (ch : Nat → Int32) (ru : Nat → Int32) (cn : Nat → Int32) (rg : Nat → Int32) (hh : Nat → Int32) (th : Int32) (le : Int32) (lo : Int32) (da : Int32) (si : Int32) (fl : Nat → Int32) (kn : Nat → Int32) (rn : Nat → Int32) (gr : Nat → Int32) (dr : Nat → Int32) (kc : Nat → Int64) (bg : Nat → Int64) (tx : Nat → Int64) (wi : Nat → Int64) (nw : Nat → Int64) (vv : Nat → Int64) (wa : Nat → Int32) (ov : Nat → Int64) (x1 : Int32) (x2 : Int32) (hR : lwR wl dl fw dw ru cn rg le da si fl kn rn gr dr kc bg) : ((f_BC_register x1 x2 rg).1 = 0 ∨ (f_BC_register x1 x2 rg).1 = 1) ∧ (((f_MO_register x1 x2 th le lo da si gr).2)) = lwA (f_BC_register x1 x2 rg).1 ∧ ((lwA (f_BC_register x1 x2 rg).1) = 0 → lg_cmp ((lw_o (f_BC_register x1 x2 rg).1 ((f_BC_register x1 x2 rg).2) ov) ((0 : Int32)).toNatClampNeg) ((((f_MO_register x1 x2 th le lo da si gr).1)).toInt64) = 0) ∧ lwR wl dl fw dw ru cn rg le da si fl kn rn gr dr kc bg := by
  have h4 := register_rel x1 x2 rg th le lo da si
  rw [← hR.2.2.2.1] at h4 ⊢
  have h3 := lw_01 h4
  exact ⟨h3.1, h3.2.1, lw_ansA h3.2.2, hR.1, hR.2.1, hR.2.2.1, rfl, hR.2.2.2.2⟩

theorem lf_quote (wl : Int32) (fw : Nat → Int32) (dl : Int32) (dw : Nat → Int32) (iw : Nat → Int32) (sl : Int32) (ms : Nat → Int32) (sc : Nat → Int32) (ch : Nat → Int32) (ru : Nat → Int32) (cn : Nat → Int32) (rg : Nat → Int32) (hh : Nat → Int32) (th : Int32) (le : Int32) (lo : Int32) (da : Int32) (si : Int32) (fl : Nat → Int32) (kn : Nat → Int32) (rn : Nat → Int32) (gr : Nat → Int32) (dr : Nat → Int32) (kc : Nat → Int64) (bg : Nat → Int64) (tx : Nat → Int64) (wi : Nat → Int64) (nw : Nat → Int64) (vv : Nat → Int64) (wa : Nat → Int32) (ov : Nat → Int64) (x1 : Int32) (x2 : Int32) (hR : lwR wl dl fw dw ru cn rg le da si fl kn rn gr dr kc bg) : ((f_BC_quote x1 x2 sl ms sc ch ru rg hh).1 = 0 ∨ (f_BC_quote x1 x2 sl ms sc ch ru rg hh).1 = 1 ∨ (f_BC_quote x1 x2 sl ms sc ch ru rg hh).1 = 2) ∧ (((f_MO_quote x1 x2 th le lo da si kc bg tx wi nw vv wa rn gr).2.1)) = lwA (f_BC_quote x1 x2 sl ms sc ch ru rg hh).1 ∧ ((lwA (f_BC_quote x1 x2 sl ms sc ch ru rg hh).1) = 0 → lg_cmp ((lw_o (f_BC_quote x1 x2 sl ms sc ch ru rg hh).1 ((f_BC_quote x1 x2 sl ms sc ch ru rg hh).2.1) ov) ((0 : Int32)).toNatClampNeg) ((((f_MO_quote x1 x2 th le lo da si kc bg tx wi nw vv wa rn gr).1)).toInt64) = 0) ∧ lwR wl dl fw dw ru cn rg le da (((f_MO_quote x1 x2 th le lo da si kc bg tx wi nw vv wa rn gr).2.2.1)) fl kn rn gr dr kc bg := by
  obtain ⟨e1, e2, e3, e4, e5, hkc, hbg, hl, hr, hd⟩ := hR
  subst e4 e5
  obtain ⟨h1, h2⟩ := quote_op x1 x2 sl ms sc ch ru gr hh rn th le lo da tx wi nw vv wa hkc hbg hr
  have h3 := lw_012 h1
  exact ⟨h3.1, h3.2.1, lw_ansA h3.2.2, e1, e2, e3, rfl, h2, hkc, hbg, hl, hr, hd⟩

theorem lf_hash (wl : Int32) (fw : Nat → Int32) (dl : Int32) (dw : Nat → Int32) (iw : Nat → Int32) (sl : Int32) (ms : Nat → Int32) (sc : Nat → Int32) (ch : Nat → Int32) (ru : Nat → Int32) (cn : Nat → Int32) (rg : Nat → Int32) (hh : Nat → Int32) (th : Int32) (le : Int32) (lo : Int32) (da : Int32) (si : Int32) (fl : Nat → Int32) (kn : Nat → Int32) (rn : Nat → Int32) (gr : Nat → Int32) (dr : Nat → Int32) (kc : Nat → Int64) (bg : Nat → Int64) (tx : Nat → Int64) (wi : Nat → Int64) (nw : Nat → Int64) (vv : Nat → Int64) (wa : Nat → Int32) (ov : Nat → Int64) (x1 : Int32) (x2 : Int32) (x3 : Int32) (hR : lwR wl dl fw dw ru cn rg le da si fl kn rn gr dr kc bg) : ((f_BC_hash x1 x2 x3 sl ms sc ch hh).1 = 0 ∨ (f_BC_hash x1 x2 x3 sl ms sc ch hh).1 = 1) ∧ (((f_MO_hash x1 x2 x3 th le lo da si kc bg tx wi nw vv wa).2.1)) = lwA (f_BC_hash x1 x2 x3 sl ms sc ch hh).1 ∧ ((lwA (f_BC_hash x1 x2 x3 sl ms sc ch hh).1) = 0 → lg_cmp ((lw_o (f_BC_hash x1 x2 x3 sl ms sc ch hh).1 ((f_BC_hash x1 x2 x3 sl ms sc ch hh).2.1) ov) ((0 : Int32)).toNatClampNeg) ((((f_MO_hash x1 x2 x3 th le lo da si kc bg tx wi nw vv wa).1)).toInt64) = 0) ∧ lwR wl dl fw dw ru cn rg le da (((f_MO_hash x1 x2 x3 th le lo da si kc bg tx wi nw vv wa).2.2.1)) fl kn rn gr dr kc bg := by
  obtain ⟨e1, e2, e3, e4, e5, hkc, hbg, hl, hr, hd⟩ := hR
  subst e5
  obtain ⟨h1, h2⟩ := hash_op x1 x2 x3 sl ms sc ch hh th le lo da tx wi nw vv wa hkc hbg
  have h3 := lw_01 h1
  exact ⟨h3.1, h3.2.1, lw_ansA h3.2.2, e1, e2, e3, e4, h2, hkc, hbg, hl, hr, hd⟩

