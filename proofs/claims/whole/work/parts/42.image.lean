/-! Images: seal, digest, good; class against reference. -/
def sealL (sg : Int32) (rr : Nat → Int32) (a : Nat) : List Int32 := ([] ++ cntL (4 * sg + 1) 0 4) ++ rowL rr a 0 7 ++ cntL (4 * sg + 1) 0 4
theorem sealL_len (sg : Int32) (rr : Nat → Int32) (a : Nat) : (sealL sg rr a).length = 15 := by
  unfold sealL
  rw [List.length_append, List.length_append, List.length_append, cntL_len, rowL_len]
  rfl
theorem sealL_congr {sg : Int32} {rr rr' : Nat → Int32} {a a' : Nat} (h : ∀ i, i < 7 → rr (a + i) = rr' (a' + i)) : sealL sg rr a = sealL sg rr' a' := by
  unfold sealL
  rw [rowL_congr 7 0 (fun i _ hi => h i (by omega))]
theorem cseal (sg : Int32) (w tg : Nat → Int32) (sl : Int32) (ms sc ch : Nat → Int32) : (f_IM_sealInto sg w tg sl ms sc ch).1 = cp8 tg 0 (dig (sealL sg w 0)) := by
  unfold f_IM_sealInto f_IM_sealInto_c1 f_IM_sealInto_c2 f_IM_sealInto_c3 f_IM_sealInto_c4 f_SH_begin
  have h1 := cms_cnt (c := 4) (fi := 4 * sg + 1) (co := 4) sc ch rfl (cms_nil ms) (by decide)
  have h2 := cms_row (N := 16) (a := 0) (c := 7) (fr := 0) (co := 7) sc ch w rfl rfl (by decide) h1 (by rw [List.length_append, cntL_len]; decide)
  have h3 := cms_cnt (c := 4) (fi := 4 * sg + 1) (co := 4) sc ch rfl h2 (by rw [List.length_append, List.length_append, cntL_len, rowL_len]; decide)
  dsimp only
  exact cfin 8 0 (fr := 0) rfl (by decide) sc ch tg h3 (by rw [sealL_len]; decide)
theorem rseal (N a : Nat) (ha : a < 2 ^ 30) (sg th le lo da : Int32) {kc bg : Nat → Int64} (tx wi nw vv : Nat → Int64) (aw_ rr : Nat → Int32) (hkc : kcOk kc) (hbg : bgOk bg) : (f_MO_seal N (nI a) sg th le lo da 0 kc bg tx wi nw vv aw_ rr).2.2.2.2.2 = cp8 aw_ 0 (dig (sealL sg rr a)) := by
  have e4 : ∀ u1 u2 u3 u4, (f_MO_seal_c4 N (nI a) sg th le lo da 0 kc bg tx wi nw vv aw_ rr u1 u2 u3 u4).2.2.2.2.2 = u4.2.2.2.2.2 := fun _ _ _ _ => rfl
  unfold f_MO_seal f_MO_seal_c1 f_MO_seal_c2 f_MO_seal_c3
  rw [e4]
  rw [Int32.add_comm 1 (4 * sg)]
  have h1 := rms_cnt (c := 4) (fi := 4 * sg + 1) (co := 4) th le lo da rfl (rms_nil tx) (by decide)
  have h2 := rms_row (N := N) (a := a) (c := 7) (fr := nI a) (co := 7) th le lo da rr rfl rfl (by omega) h1 (by rw [List.length_append, cntL_len]; decide)
  have h3 := rms_cnt (c := 4) (fi := 4 * sg + 1) (co := 4) th le lo da rfl h2 (by rw [List.length_append, List.length_append, cntL_len, rowL_len]; decide)
  exact rfin th le lo da wi nw vv aw_ hkc hbg h3 (by rw [sealL_len]; decide)
theorem idx_so {s j : Nat} (hs : s < 4) (hj : j < 16) : f_FL_indexOf (nI s) (nI j) = nI (16 * s + j) := by
  unfold f_FL_indexOf
  rw [if_neg (by rw [show (4 : Int32) = nI 4 from rfl, nI_leI (by decide) (by omega)]; omega), show (16 : Int32) = nI 16 from rfl, pk_mul, nI_add]
theorem load2 {s : Nat} (hs : s < 4) (w : Nat → Int32) (wl : Int32) (g : Nat → Int32) : ∀ (n k : Nat) (y : Nat → Int32), k ≤ 16 → 16 - k < n → (∀ j, j < k → y j = g (16 * s + j)) → ∀ j, j < 16 → f_IM_load_2 (nI s) w wl g n (nI k) y j = g (16 * s + j) := by
  intro n
  induction n with
  | zero => intro k y _ h; exact absurd h (Nat.not_lt_zero _)
  | succ n ih =>
    intro k y hk hn hy j hj
    by_cases h : 16 ≤ k
    · rw [f_IM_load_2, if_pos (by rw [le_lit (l := 16) (c := 16) rfl (by decide) (by omega)]; exact h)]
      exact hy j (by omega)
    · rw [f_IM_load_2, if_neg (by rw [le_lit (l := 16) (c := 16) rfl (by decide) (by omega)]; exact h), nI_1, nI_clamp (by omega)]
      refine ih (k + 1) _ (by omega) (by omega) (fun i hi => ?_) j hj
      unfold f_FL_read
      rw [idx_so hs (by omega), nI_clamp (by omega)]
      by_cases q : i = k
      · subst q; exact pk_us
      · rw [pk_un q]; exact hy i (by omega)
theorem load_at {s : Nat} (hs : s < 4) (w : Nat → Int32) (wl : Int32) (g : Nat → Int32) : ∀ j, j < 16 → f_IM_load (nI s) w wl g j = g (16 * s + j) := by
  unfold f_IM_load
  exact load2 hs w wl g 17 0 w (by omega) (by omega) (fun j h => absurd h (Nat.not_lt_zero _))
/-! the byte at a place of the payload -/
theorem byte_eq (z : Int32) {r : Nat} (hr : r < 4) : ju z (24 - 8 * nI r) &&& 255 = (z >>> ((8 * (3 - nI r)) &&& 31)) &&& 255 := by
  have h : r = 0 ∨ r = 1 ∨ r = 2 ∨ r = 3 := by omega
  rcases h with rfl | rfl | rfl | rfl
  · exact ju_sr z _ _ 255 24 (by decide) (by decide) (by decide) (by decide)
  · exact ju_sr z _ _ 255 16 (by decide) (by decide) (by decide) (by decide)
  · exact ju_sr z _ _ 255 8 (by decide) (by decide) (by decide) (by decide)
  · exact ju_sr z _ _ 255 0 (by decide) (by decide) (by decide) (by decide)
theorem good0 (so th le lo da si : Int32) (kc bg tx wi nw vv : Nat → Int64) (aw_ fl cn : Nat → Int32) (n : Nat) (x2 x3 x6 y0 : Int32) (y3 y4 y5 y6 : Nat → Int64) (y7 : Nat → Int32) : (f_MO_good_81 so th le lo da si kc bg tx wi nw vv aw_ fl cn (n + 1) x2 x3 0 x6 y0 y3 y4 y5 y6 y7).1 = 0 := by
  rw [f_MO_good_81]
  unfold f_MO_good_j136
  simp only [if_true, ite_self]
theorem good81 {s : Nat} (hs : s < 4) (th le lo da si : Int32) (kc bg tx wi nw vv : Nat → Int64) (aw_ fl cn w : Nat → Int32) (le0 : Int32) (hw : ∀ j, j < 16 → w j = fl (16 * s + j)) (x3 y0 : Int32) (y3 y4 y5 y6 : Nat → Int64) (y7 : Nat → Int32) (V : Int32) (hV : V = (f_MO_good_c1 (fun _ _ _ _ _ _ _ _ _ _ => (0, 0, zL, zL, zL, zL, zA)) (nI s) th le lo da si kc bg tx wi nw vv aw_ fl cn (nI (16 * s)) x3 1 y0 y3 y4 y5 y6 y7 (f_MO_seal 70 (nI (16 * s)) x3 th le lo da y0 kc bg y3 y4 y5 y6 y7 fl)).1) : ∀ (n k : Nat), k ≤ 24 → 24 - k < n → (f_MO_good_81 (nI s) th le lo da si kc bg tx wi nw vv aw_ fl cn n (nI (16 * s)) x3 1 (nI k) y0 y3 y4 y5 y6 y7).1 = if f_IM_hasZerosBehind_2 le0 w n (nI k) = 0 then 0 else V := by
  intro n
  induction n with
  | zero => intro k _ h; exact absurd h (Nat.not_lt_zero _)
  | succ n ih =>
    intro k hk hn
    by_cases h : 24 ≤ k
    · have h' : (24 : Int32) ≤ nI k := by rw [le_lit (l := 24) (c := 24) rfl (by decide) (by omega)]; exact h
      rw [f_MO_good_81, if_pos h', f_IM_hasZerosBehind_2, if_pos h', if_neg one0, hV]
      unfold f_MO_good_j136
      rw [if_neg one0]
      rfl
    · have h' : ¬ (24 : Int32) ≤ nI k := by rw [le_lit (l := 24) (c := 24) rfl (by decide) (by omega)]; exact h
      rw [f_MO_good_81, if_neg h', f_IM_hasZerosBehind_2, if_neg h', if_neg one0]
      have e : ju (w ((1 : Int32) + nI k / 4).toNatClampNeg) (24 - 8 * (nI k - nI k / 4 * 4)) &&& 255 = (fl ((nI (16 * s) + 1) + nI k / 4).toNatClampNeg >>> ((8 * (3 - (nI k - nI k / 4 * 4))) &&& 31)) &&& 255 := by
        rw [show (4 : Int32) = nI 4 from rfl, pk_rem (by omega) (by decide) (by decide), pk_div (by omega) (by decide) (by decide), nI_1, nI_add, show (1 : Int32) = nI 1 from rfl, nI_add, nI_clamp (by omega), nI_clamp (by omega), hw _ (by omega), show 16 * s + 1 + k / 4 = 16 * s + (1 + k / 4) by omega]
        exact byte_eq _ (Nat.mod_lt _ (by decide))
      rw [e, nI_1 k]
      by_cases q : (fl ((nI (16 * s) + 1) + nI k / 4).toNatClampNeg >>> ((8 * (3 - (nI k - nI k / 4 * 4))) &&& 31)) &&& 255 = 0
      · rw [if_pos q, if_pos q]
        exact ih (k + 1) (by omega) (by omega)
      · rw [if_neg q, if_neg q, if_pos rfl]
        obtain ⟨n, rfl⟩ : ∃ m, n = m + 1 := ⟨n - 1, by omega⟩
        exact good0 _ _ _ _ _ _ _ _ _ _ _ _ _ _ _ _ _ _ _ _ _ _ _ _ _
theorem bears_iff (w tg : Nat → Int32) : ∀ (n k : Nat), k ≤ 8 → 8 - k < n → (f_IM_bears_2 w tg n (nI k) = 1 ↔ ∀ i, k ≤ i → i < 8 → w (8 + i) = tg i) := by
  intro n
  induction n with
  | zero => intro k _ h; exact absurd h (Nat.not_lt_zero _)
  | succ n ih =>
    intro k hk hn
    by_cases h : 8 ≤ k
    · rw [f_IM_bears_2, if_pos (by rw [le_lit (l := 8) (c := 8) rfl (by decide) (by omega)]; exact h)]
      exact ⟨fun _ i a c => absurd c (by omega), fun _ => rfl⟩
    · rw [f_IM_bears_2, if_neg (by rw [le_lit (l := 8) (c := 8) rfl (by decide) (by omega)]; exact h), nI_1, show (8 : Int32) = nI 8 from rfl, nI_add, nI_clamp (by omega), nI_clamp (by omega)]
      by_cases q : w (8 + k) = tg k
      · rw [if_pos q, ih (k + 1) (by omega) (by omega)]
        refine ⟨fun z i a c => ?_, fun z i a c => z i (by omega) c⟩
        by_cases e : i = k
        · subst e; exact q
        · exact z i (by omega) c
      · rw [if_neg q]
        exact ⟨fun z => absurd z (by decide), fun z => absurd (z k (Nat.le_refl _) (by omega)) q⟩
theorem g156_0 (so th le lo da si : Int32) (kc bg tx wi nw vv : Nat → Int64) (aw_ fl cn : Nat → Int32) (x2 y0 : Int32) (y3 y4 y5 y6 : Nat → Int64) (y7 : Nat → Int32) : ∀ (n : Nat) (x6 : Int32), (f_MO_good_156 so th le lo da si kc bg tx wi nw vv aw_ fl cn n x2 0 x6 y0 y3 y4 y5 y6 y7).1 = 0 := by
  intro n
  induction n with
  | zero => intro x6; rfl
  | succ n ih =>
    intro x6
    rw [f_MO_good_156]
    split
    · rfl
    · rw [if_pos rfl]; exact ih _
theorem g156_iff (so th le lo da si : Int32) (kc bg tx wi nw vv : Nat → Int64) (aw_ fl cn : Nat → Int32) (a : Nat) (ha : a < 2 ^ 30) (y0 : Int32) (y3 y4 y5 y6 : Nat → Int64) (y7 : Nat → Int32) : ∀ (n k : Nat), k ≤ 8 → 8 - k < n → ((f_MO_good_156 so th le lo da si kc bg tx wi nw vv aw_ fl cn n (nI a) 1 (nI k) y0 y3 y4 y5 y6 y7).1 = 1 ↔ ∀ i, k ≤ i → i < 8 → y7 i = fl (a + 8 + i)) := by
  intro n
  induction n with
  | zero => intro k _ h; exact absurd h (Nat.not_lt_zero _)
  | succ n ih =>
    intro k hk hn
    by_cases h : 8 ≤ k
    · rw [f_MO_good_156, if_pos (by rw [le_lit (l := 8) (c := 8) rfl (by decide) (by omega)]; exact h)]
      exact ⟨fun _ i a c => absurd c (by omega), fun _ => rfl⟩
    · rw [f_MO_good_156, if_neg (by rw [le_lit (l := 8) (c := 8) rfl (by decide) (by omega)]; exact h), if_neg one0, nI_1, show (8 : Int32) = nI 8 from rfl, nI_add, nI_add, nI_clamp (by omega), nI_clamp (by omega)]
      by_cases q : y7 k = fl (a + 8 + k)
      · rw [if_pos q, ih (k + 1) (by omega) (by omega)]
        refine ⟨fun z i a c => ?_, fun z i a c => z i (by omega) c⟩
        by_cases e : i = k
        · subst e; exact q
        · exact z i (by omega) c
      · rw [if_neg q, g156_0]
        exact ⟨fun z => absurd z (by decide), fun z => absurd (z k (Nat.le_refl _) (by omega)) q⟩

