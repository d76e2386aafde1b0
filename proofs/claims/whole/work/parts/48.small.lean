/-! The small operations, hash, quote, confirm: class against reference. -/
theorem out_iff {k l : Int32} : f_MO_out k l = 0 ↔ (¬ k < 0 ∧ k < l) := by
  unfold f_MO_out
  by_cases h : k < 0
  · rw [if_pos h]; exact ⟨fun z => absurd z one0, fun z => absurd h z.1⟩
  · rw [if_neg h]
    by_cases h2 : k < l
    · rw [if_pos h2]; exact ⟨fun _ => ⟨h, h2⟩, fun _ => rfl⟩
    · rw [if_neg h2]; exact ⟨fun z => absurd z one0, fun z => absurd z.2 h2⟩
theorem stage_iff {sg : Int32} : f_BC_isStage sg = 0 ↔ ¬ f_MO_out sg 2 = 0 := by
  rw [out_iff]
  unfold f_BC_isStage
  by_cases h : sg < 0
  · rw [if_pos h]; exact ⟨fun _ z => z.1 h, fun _ => rfl⟩
  · rw [if_neg h]
    by_cases h2 : 2 ≤ sg
    · rw [if_pos h2]; exact ⟨fun _ z => Int32.not_lt.mpr h2 z.2, fun _ => rfl⟩
    · rw [if_neg h2]; exact ⟨fun z => absurd z one0, fun z => absurd ⟨h, Int32.not_le.mp h2⟩ z⟩
theorem hword_iff {wd : Int32} : f_BC_isHashWord wd = 0 ↔ ¬ f_MO_out wd 8 = 0 := by
  rw [out_iff]
  unfold f_BC_isHashWord
  by_cases h : wd < 0
  · rw [if_pos h]; exact ⟨fun _ z => z.1 h, fun _ => rfl⟩
  · rw [if_neg h]
    by_cases h2 : 8 ≤ wd
    · rw [if_pos h2]; exact ⟨fun _ z => Int32.not_lt.mpr h2 z.2, fun _ => rfl⟩
    · rw [if_neg h2]; exact ⟨fun z => absurd z one0, fun z => absurd ⟨h, Int32.not_le.mp h2⟩ z⟩
theorem power_rel (n0 wl : Int32) (fw : Nat → Int32) (th lo da si : Int32) : (((f_BC_power n0 wl fw).1 = 0 ∧ (f_MO_power n0 th wl lo da si).1 = 0 ∧ lef (f_BC_power n0 wl fw).2) ∨ ((f_BC_power n0 wl fw).1 = 1 ∧ (f_MO_power n0 th wl lo da si).1 = 1 ∧ (f_BC_power n0 wl fw).2 = wl)) ∧ (f_MO_power n0 th wl lo da si).2 = (f_BC_power n0 wl fw).2 := by
  unfold f_BC_power f_MO_power
  by_cases h : n0 < -1
  · rw [if_pos h, if_pos h, if_neg one0]; exact ⟨Or.inr ⟨rfl, rfl, rfl⟩, rfl⟩
  · rw [if_neg h, if_neg h]
    by_cases h2 : n0 ≤ 1000
    · rw [if_pos h2, if_pos h2, if_pos rfl]; exact ⟨Or.inl ⟨rfl, rfl, Int32.not_lt.mp h, h2⟩, rfl⟩
    · rw [if_neg h2, if_neg h2, if_neg one0]; exact ⟨Or.inr ⟨rfl, rfl, rfl⟩, rfl⟩
theorem counter_rel (sg : Int32) (cn : Nat → Int32) (th le lo da si : Int32) : ((f_BC_counter sg cn).1 = 0 ∧ (f_MO_counter sg th le lo da si cn).2 = 0 ∧ (f_BC_counter sg cn).2 = (f_MO_counter sg th le lo da si cn).1) ∨ ((f_BC_counter sg cn).1 = 1 ∧ (f_MO_counter sg th le lo da si cn).2 = 1) := by
  unfold f_BC_counter f_MO_counter
  by_cases h : f_MO_out sg 2 = 0
  · rw [if_pos h, if_neg (fun z => stage_iff.mp z h)]; exact Or.inl ⟨rfl, rfl, rfl⟩
  · rw [if_neg h, if_pos (stage_iff.mpr h)]; exact Or.inr ⟨rfl, rfl⟩
theorem runs_rel (sg : Int32) (ru rn : Nat → Int32) (th le lo da si : Int32) (hr : runR ru rn) : ((f_BC_runs sg ru).1 = 0 ∧ (f_MO_runs sg th le lo da si rn).2 = 0 ∧ (f_BC_runs sg ru).2 = (f_MO_runs sg th le lo da si rn).1) ∨ ((f_BC_runs sg ru).1 = 1 ∧ (f_MO_runs sg th le lo da si rn).2 = 1) := by
  unfold f_BC_runs f_MO_runs
  by_cases h : f_MO_out sg 2 = 0
  · rw [if_pos h, if_neg (fun z => stage_iff.mp z h)]
    have key : ∀ g : Nat, g < 2 → run1 g ru rn → (if 0 ≤ rn (nI g).toNatClampNeg then (2 * nI g + rn (nI g).toNatClampNeg, (0 : Int32)) else (-1, 0)) = (ru (nI g).toNatClampNeg, 0) := by
      intro g hg h1
      rw [nI_clamp (by omega)]
      rcases h1 with ⟨a, c⟩ | ⟨x, hx, a, c⟩
      · rw [a, c]; rfl
      · rw [a, c, if_pos (nI_pos' (by omega)), nI2g]
    rcases out2 h with rfl | rfl
    · have := key 0 (by decide) hr.1
      rw [show nI 0 = (0 : Int32) from rfl] at this
      rw [this]; exact Or.inl ⟨rfl, rfl, rfl⟩
    · have := key 1 (by decide) hr.2
      rw [show nI 1 = (1 : Int32) from rfl] at this
      rw [this]; exact Or.inl ⟨rfl, rfl, rfl⟩
  · rw [if_neg h, if_pos (stage_iff.mpr h)]; exact Or.inr ⟨rfl, rfl⟩
theorem register_rel (sg wd : Int32) (rg : Nat → Int32) (th le lo da si : Int32) : ((f_BC_register sg wd rg).1 = 0 ∧ (f_MO_register sg wd th le lo da si rg).2 = 0 ∧ (f_BC_register sg wd rg).2 = (f_MO_register sg wd th le lo da si rg).1) ∨ ((f_BC_register sg wd rg).1 = 1 ∧ (f_MO_register sg wd th le lo da si rg).2 = 1) := by
  unfold f_BC_register f_MO_register
  by_cases h : f_MO_out sg 2 = 0
  · rw [if_pos h, if_neg (fun z => stage_iff.mp z h)]
    by_cases h2 : f_MO_out wd 8 = 0
    · rw [if_pos h2, if_neg (fun z => hword_iff.mp z h2)]; exact Or.inl ⟨rfl, rfl, rfl⟩
    · rw [if_neg h2, if_pos (hword_iff.mpr h2)]; exact Or.inr ⟨rfl, rfl⟩
  · rw [if_neg h, if_pos (stage_iff.mpr h)]; exact Or.inr ⟨rfl, rfl⟩
/-! places -/
theorem place_has {pl wd : Int32} : (f_FL_hasWord pl wd = 0 ∧ f_MO_placeOf pl wd = -1) ∨ (¬ f_FL_hasWord pl wd = 0 ∧ 0 ≤ f_MO_placeOf pl wd ∧ f_MO_placeOf pl wd = f_FL_indexOf pl wd) := by
  have main : (f_FL_hasWord pl wd = 0 ∧ f_MO_placeOf pl wd = -1) ∨ (¬ f_FL_hasWord pl wd = 0 ∧ f_MO_placeOf pl wd = f_FL_indexOf pl wd) := by
    unfold f_FL_hasWord f_MO_placeOf f_FL_indexOf
    by_cases h0 : pl < 0
    · rw [if_pos h0, if_neg (fun z => (out_iff.mp z).1 h0)]; exact Or.inl ⟨rfl, rfl⟩
    rw [if_neg h0]
    by_cases h6 : 6 ≤ pl
    · rw [if_pos h6, if_neg (fun z => Int32.not_lt.mpr h6 (out_iff.mp z).2)]; exact Or.inl ⟨rfl, rfl⟩
    rw [if_neg h6, if_pos (out_iff.mpr ⟨h0, Int32.not_le.mp h6⟩)]
    unfold f_MO_placeOf_j21
    by_cases hw : 0 ≤ wd
    · rw [if_pos hw]
      by_cases h4 : 4 ≤ pl
      · rw [if_pos h4, if_pos h4, if_pos h4]
        by_cases h3 : 3 ≤ wd
        · rw [if_pos h3, if_neg (fun z => Int32.not_lt.mpr h3 (out_iff.mp z).2)]; exact Or.inl ⟨rfl, rfl⟩
        · rw [if_neg h3, if_pos (out_iff.mpr ⟨Int32.not_lt.mpr hw, Int32.not_le.mp h3⟩)]; exact Or.inr ⟨one0, rfl⟩
      · rw [if_neg h4, if_neg h4, if_neg h4]
        by_cases h3 : 16 ≤ wd
        · rw [if_pos h3, if_neg (fun z => Int32.not_lt.mpr h3 (out_iff.mp z).2)]; exact Or.inl ⟨rfl, rfl⟩
        · rw [if_neg h3, if_pos (out_iff.mpr ⟨Int32.not_lt.mpr hw, Int32.not_le.mp h3⟩)]; exact Or.inr ⟨one0, rfl⟩
    · rw [if_neg hw]
      have hn : ∀ l : Int32, ¬ f_MO_out wd l = 0 := fun l z => (out_iff.mp z).1 (Int32.not_le.mp hw)
      by_cases h4 : 4 ≤ pl
      · rw [if_pos h4, if_neg (hn 3)]; exact Or.inl ⟨rfl, rfl⟩
      · rw [if_neg h4, if_neg (hn 16)]; exact Or.inl ⟨rfl, rfl⟩
  rcases main with h | ⟨h1, h2⟩
  · exact Or.inl h
  · refine Or.inr ⟨h1, ?_, h2⟩
    rw [h2]
    exact Int32.not_lt.mp fun z => (ix_has h1) (Or.inl z)
theorem flash_rel (pl wd wl : Int32) (fw : Nat → Int32) (th le lo da si : Int32) : ((f_BC_flash pl wd wl fw).1 = 0 ∧ (f_MO_flash pl wd th le lo da si fw).2 = 0 ∧ (f_BC_flash pl wd wl fw).2 = (f_MO_flash pl wd th le lo da si fw).1) ∨ ((f_BC_flash pl wd wl fw).1 = 1 ∧ (f_MO_flash pl wd th le lo da si fw).2 = 1) := by
  unfold f_BC_flash f_MO_flash f_FL_read
  rcases place_has (pl := pl) (wd := wd) with ⟨h1, h2⟩ | ⟨h1, h2, h3⟩
  · rw [if_pos h1, if_neg (by rw [h2]; decide)]; exact Or.inr ⟨rfl, rfl⟩
  · rw [if_neg h1, if_pos h2, h3]; exact Or.inl ⟨rfl, rfl, rfl⟩
theorem spoil_rel (pl wd bi wl : Int32) (fw : Nat → Int32) (th le lo da si : Int32) : (((f_BC_spoil pl wd bi wl fw).1 = 0 ∧ (f_MO_spoil pl wd bi th le lo da si fw).1 = 0) ∨ ((f_BC_spoil pl wd bi wl fw).1 = 1 ∧ (f_MO_spoil pl wd bi th le lo da si fw).1 = 1)) ∧ (f_MO_spoil pl wd bi th le lo da si fw).2 = (f_BC_spoil pl wd bi wl fw).2 := by
  unfold f_BC_spoil f_MO_spoil f_FL_turnOver
  rcases place_has (pl := pl) (wd := wd) with ⟨h1, h2⟩ | ⟨h1, h2, h3⟩
  · rw [if_pos h1, if_neg (by rw [h2]; decide), if_neg one0]; exact ⟨Or.inr ⟨rfl, rfl⟩, rfl⟩
  · rw [if_neg h1, if_pos h2, if_pos rfl, h3]; exact ⟨Or.inl ⟨rfl, rfl⟩, rfl⟩
theorem state_rel (wl : Int32) (fw : Nat → Int32) (th le lo da si : Int32) : f_BC_state wl fw = (f_MO_state th le lo da si fw).1 ∧ (f_MO_state th le lo da si fw).2 = 0 := ⟨hst_eq 0 le lo da si wl fw, rfl⟩
theorem run_neg {ru rn : Nat → Int32} {g : Nat} (hg : g < 2) (h : run1 g ru rn) : ru g = -1 ↔ rn g < 0 := by
  rcases h with ⟨a, c⟩ | ⟨x, hx, a, c⟩
  · rw [a, c]; decide
  · rw [a, c]
    exact ⟨fun z => absurd (nI_pos' (n := 2 * g + x) (by omega)) (by rw [z]; decide), fun z => absurd z (Int32.not_lt.mpr (nI_pos' (by omega)))⟩
theorem both_rel {ru rn : Nat → Int32} (th le lo da si : Int32) (hr : runR ru rn) : f_BC_bothStagesRun ru = 0 ↔ f_MO_both th le lo da si rn = 0 := by
  have k0 : ru ((0 : Int32)).toNatClampNeg = -1 ↔ rn ((0 : Int32)).toNatClampNeg < 0 := run_neg (g := 0) (by decide) hr.1
  have k1 : ru ((1 : Int32)).toNatClampNeg = -1 ↔ rn ((1 : Int32)).toNatClampNeg < 0 := run_neg (g := 1) (by decide) hr.2
  unfold f_BC_bothStagesRun f_MO_both
  by_cases h0 : rn ((0 : Int32)).toNatClampNeg < 0
  · rw [if_pos h0, if_pos (k0.mpr h0)]
  · rw [if_neg h0, if_neg (fun z => h0 (k0.mp z))]
    by_cases h1 : rn ((1 : Int32)).toNatClampNeg < 0
    · rw [if_pos h1, if_pos (k1.mpr h1)]
    · rw [if_neg h1, if_neg (fun z => h1 (k1.mp z))]
theorem run_x {ru rn : Nat → Int32} (th le lo da si : Int32) (hr : runR ru rn) (hb : ¬ f_MO_both th le lo da si rn = 0) : (∃ x : Nat, x ≤ 1 ∧ rn 0 = nI x ∧ ru 0 = nI (2 * 0 + x)) ∧ ∃ x : Nat, x ≤ 1 ∧ rn 1 = nI x ∧ ru 1 = nI (2 * 1 + x) := by
  unfold f_MO_both at hb
  by_cases h0 : rn ((0 : Int32)).toNatClampNeg < 0
  · rw [if_pos h0] at hb; exact absurd rfl hb
  rw [if_neg h0] at hb
  by_cases h1 : rn ((1 : Int32)).toNatClampNeg < 0
  · rw [if_pos h1] at hb; exact absurd rfl hb
  have h0' : ¬ rn 0 < 0 := h0
  have h1' : ¬ rn 1 < 0 := h1
  refine ⟨hr.1.resolve_left fun z => h0' (by rw [z.1]; decide), hr.2.resolve_left fun z => h1' (by rw [z.1]; decide)⟩
/-! hash and quote -/
theorem hw_nI {wd : Int32} (h : f_MO_out wd 8 = 0) : ∃ j : Nat, j < 8 ∧ wd = nI j := by
  obtain ⟨h0, h1⟩ := out_iff.mp h
  obtain ⟨j, hj, rfl⟩ := nI_of h0
  rw [show (8 : Int32) = nI 8 from rfl, nI_ltI hj (by decide)] at h1
  exact ⟨j, h1, rfl⟩
theorem hash_op (fi co wd sl : Int32) (ms sc ch hh : Nat → Int32) (th le lo da : Int32) {kc bg : Nat → Int64} (tx wi nw vv : Nat → Int64) (aw_ : Nat → Int32) (hkc : kcOk kc) (hbg : bgOk bg) : (((f_BC_hash fi co wd sl ms sc ch hh).1 = 0 ∧ (f_MO_hash fi co wd th le lo da 0 kc bg tx wi nw vv aw_).2.1 = 0 ∧ (f_BC_hash fi co wd sl ms sc ch hh).2.1 = (f_MO_hash fi co wd th le lo da 0 kc bg tx wi nw vv aw_).1) ∨ ((f_BC_hash fi co wd sl ms sc ch hh).1 = 1 ∧ (f_MO_hash fi co wd th le lo da 0 kc bg tx wi nw vv aw_).2.1 = 1)) ∧ (f_MO_hash fi co wd th le lo da 0 kc bg tx wi nw vv aw_).2.2.1 = 0 := by
  unfold f_BC_hash f_MO_hash
  by_cases c0 : co < 0
  · rw [if_pos c0, if_neg (fun z => (out_iff.mp z).1 c0)]
    exact ⟨Or.inr ⟨rfl, rfl⟩, rfl⟩
  rw [if_neg c0]
  by_cases c1 : 24 < co
  · rw [if_pos c1, if_neg (fun z => by
      obtain ⟨j, hj, rfl⟩ := nI_of c0
      have h1 := (out_iff.mp z).2
      rw [show (25 : Int32) = nI 25 from rfl, nI_ltI hj (by decide)] at h1
      rw [show (24 : Int32) = nI 24 from rfl, nI_ltI (by decide) hj] at c1
      omega)]
    exact ⟨Or.inr ⟨rfl, rfl⟩, rfl⟩
  obtain ⟨c, hc, rfl⟩ := nI_of c0
  rw [show (24 : Int32) = nI 24 from rfl, nI_ltI (by decide) hc] at c1
  rw [if_neg (by rw [show (24 : Int32) = nI 24 from rfl, nI_ltI (by decide) hc]; exact c1), if_pos (out_iff.mpr ⟨c0, by rw [show (25 : Int32) = nI 25 from rfl, nI_ltI hc (by decide)]; omega⟩)]
  by_cases c2 : f_MO_out wd 8 = 0
  · rw [if_pos c2, if_neg (fun z => hword_iff.mp z c2)]
    obtain ⟨j, hj, rfl⟩ := hw_nI c2
    unfold f_BC_hash_c1 f_MO_hash_j24
    rw [if_pos (by decide), show f_SH_begin sl ms sc ch = 0 from rfl]
    have h1 := cms_cnt (c := c) (fi := fi) (co := nI c) sc ch rfl (cms_nil ms) (by rw [List.length_nil]; omega)
    generalize f_SH_addCounting fi (nI c) 0 ms sc ch = u1 at h1 ⊢
    have h2 := cfin 8 0 (fr := 0) rfl (by decide) sc ch hh h1 (by rw [List.length_append, cntL_len, List.length_nil]; omega)
    generalize f_SH_finish 8 0 u1.1 u1.2 sc ch hh = u2 at h2 ⊢
    have h3 := rms_cnt (c := c) (fi := fi) (co := nI c) 0 le lo da rfl (rms_nil tx) (by rw [List.length_nil]; omega)
    generalize f_MO_addCount fi (nI c) 0 le lo da 0 tx = v1 at h3 ⊢
    unfold f_MO_hash_c1
    have h4 := rfin 0 le lo da wi nw vv aw_ hkc hbg h3 (by rw [List.length_append, cntL_len, List.length_nil]; omega)
    have h40 := mo_hash0 0 le lo da v1.1 kc bg v1.2 wi nw vv aw_
    generalize f_MO_hashText 0 le lo da v1.1 kc bg v1.2 wi nw vv aw_ = v2 at h4 h40 ⊢
    obtain ⟨a1, a2, a3, a4⟩ := u2
    obtain ⟨b1, b2, b3, b4, b5, b6⟩ := v2
    have h2' : a4 = _ := h2
    have h4' : b6 = _ := h4
    have h40' : b1 = 0 := h40
    unfold f_BC_hash_c2 f_MO_hash_c2
    refine ⟨Or.inl ⟨rfl, rfl, ?_⟩, h40'⟩
    show a4 (nI j).toNatClampNeg = b6 (nI j).toNatClampNeg
    rw [nI_clamp (by omega), h2', h4', cp8_in0 _ _ _ hj, cp8_in0 _ _ _ hj]
  · rw [if_neg c2, if_pos (hword_iff.mpr c2)]
    exact ⟨Or.inr ⟨rfl, rfl⟩, rfl⟩
def quoL (no : Int32) (rg : Nat → Int32) : List Int32 := ([] ++ cntL 9 0 4) ++ rowL rg 0 0 16 ++ [no]
theorem quoL_len (no : Int32) (rg : Nat → Int32) : (quoL no rg).length = 21 := by
  unfold quoL
  rw [List.length_append, List.length_append, List.length_append, cntL_len, rowL_len]
  rfl
theorem quote_op (no wd sl : Int32) (ms sc ch ru rg hh rn : Nat → Int32) (th le lo da : Int32) {kc bg : Nat → Int64} (tx wi nw vv : Nat → Int64) (aw_ : Nat → Int32) (hkc : kcOk kc) (hbg : bgOk bg) (hr : runR ru rn) : (((f_BC_quote no wd sl ms sc ch ru rg hh).1 = 0 ∧ (f_MO_quote no wd th le lo da 0 kc bg tx wi nw vv aw_ rn rg).2.1 = 0 ∧ (f_BC_quote no wd sl ms sc ch ru rg hh).2.1 = (f_MO_quote no wd th le lo da 0 kc bg tx wi nw vv aw_ rn rg).1) ∨ ((f_BC_quote no wd sl ms sc ch ru rg hh).1 = 1 ∧ (f_MO_quote no wd th le lo da 0 kc bg tx wi nw vv aw_ rn rg).2.1 = 1) ∨ ((f_BC_quote no wd sl ms sc ch ru rg hh).1 = 2 ∧ (f_MO_quote no wd th le lo da 0 kc bg tx wi nw vv aw_ rn rg).2.1 = 2)) ∧ (f_MO_quote no wd th le lo da 0 kc bg tx wi nw vv aw_ rn rg).2.2.1 = 0 := by
  unfold f_BC_quote f_MO_quote
  by_cases c2 : f_MO_out wd 8 = 0
  · rw [if_pos c2, if_neg (fun z => hword_iff.mp z c2)]
    by_cases c3 : f_MO_both th le lo da 0 rn = 0
    · rw [if_pos c3, if_pos ((both_rel th le lo da 0 hr).mpr c3)]
      exact ⟨Or.inr (Or.inr ⟨rfl, rfl⟩), rfl⟩
    rw [if_neg c3, if_neg (fun z => c3 ((both_rel th le lo da 0 hr).mp z))]
    obtain ⟨j, hj, rfl⟩ := hw_nI c2
    unfold f_BC_quote_c1 f_MO_quote_j26
    rw [if_pos (by decide), show f_SH_begin sl ms sc ch = 0 from rfl]
    have h1 := cms_cnt (c := 4) (fi := 9) (co := 4) sc ch rfl (cms_nil ms) (by decide)
    generalize f_SH_addCounting 9 4 0 ms sc ch = u1 at h1 ⊢
    have h2 := cms_row (N := 16) (a := 0) (c := 16) (fr := 0) (co := 16) sc ch rg rfl rfl (by decide) h1 (by rw [List.length_append, cntL_len]; decide)
    generalize f_SH_addRow 16 0 16 u1.1 u1.2 sc ch rg = u2 at h2 ⊢
    unfold f_BC_quote_c2
    have h3 := cms_add no sc ch h2 (by rw [List.length_append, List.length_append, cntL_len, rowL_len]; decide)
    generalize f_SH_add no u2.1 u2.2 sc ch = u3 at h3 ⊢
    unfold f_BC_quote_c3
    have h4 := cfin (l := quoL no rg) 8 0 (fr := 0) rfl (by decide) sc ch hh h3 (by rw [quoL_len]; decide)
    generalize f_SH_finish 8 0 u3.1 u3.2 sc ch hh = u4 at h4 ⊢
    have k1 := rms_cnt (c := 4) (fi := 9) (co := 4) 0 le lo da rfl (rms_nil tx) (by decide)
    generalize f_MO_addCount 9 4 0 le lo da 0 tx = v1 at k1 ⊢
    unfold f_MO_quote_c1
    have k2 := rms_row (N := 16) (a := 0) (c := 16) (fr := 0) (co := 16) 0 le lo da rg rfl rfl (by decide) k1 (by rw [List.length_append, cntL_len]; decide)
    generalize f_MO_addFrom 16 0 16 0 le lo da v1.1 v1.2 rg = v2 at k2 ⊢
    unfold f_MO_quote_c2
    have k3 := rms_add no 0 le lo da k2 (by rw [List.length_append, List.length_append, cntL_len, rowL_len]; decide)
    generalize f_MO_add no 0 le lo da v2.1 v2.2 = v3 at k3 ⊢
    unfold f_MO_quote_c3
    have k4 := rfin (l := quoL no rg) 0 le lo da wi nw vv aw_ hkc hbg k3 (by rw [quoL_len]; decide)
    have k40 := mo_hash0 0 le lo da v3.1 kc bg v3.2 wi nw vv aw_
    generalize f_MO_hashText 0 le lo da v3.1 kc bg v3.2 wi nw vv aw_ = v4 at k4 k40 ⊢
    obtain ⟨a1, a2, a3, a4⟩ := u4
    obtain ⟨b1, b2, b3, b4, b5, b6⟩ := v4
    have h4' : a4 = _ := h4
    have k4' : b6 = _ := k4
    have k40' : b1 = 0 := k40
    unfold f_BC_quote_c4 f_MO_quote_c4
    refine ⟨Or.inl ⟨rfl, rfl, ?_⟩, k40'⟩
    show a4 (nI j).toNatClampNeg = b6 (nI j).toNatClampNeg
    rw [nI_clamp (by omega), h4', k4', cp8_in0 _ _ _ hj, cp8_in0 _ _ _ hj]
  · rw [if_neg c2, if_pos (hword_iff.mpr c2)]
    exact ⟨Or.inr (Or.inl ⟨rfl, rfl⟩), rfl⟩

