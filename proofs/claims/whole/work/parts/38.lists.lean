/-! Messages as lists; what both sides make of a list. -/
def cms (l : List Int32) (sl : Int32) (ms : Nat → Int32) : Prop := sl = nI l.length ∧ ∀ i, i < l.length → ms i = l.getD i 0
def rms (l : List Int32) (si : Int32) (tx : Nat → Int64) : Prop := si = nI l.length ∧ ∀ i, i < l.length → tx i = ex (l.getD i 0)
theorem cms_nil (ms : Nat → Int32) : cms [] 0 ms := ⟨rfl, fun i h => absurd h (Nat.not_lt_zero _)⟩
theorem rms_nil (tx : Nat → Int64) : rms [] 0 tx := ⟨rfl, fun i h => absurd h (Nat.not_lt_zero _)⟩
theorem getD_app_l {l : List Int32} {w : Int32} {i : Nat} (h : i < l.length) : (l ++ [w]).getD i 0 = l.getD i 0 := by
  rw [List.getD_eq_getElem?_getD, List.getD_eq_getElem?_getD, List.getElem?_append_left h]
theorem getD_app_r {l : List Int32} {w : Int32} : (l ++ [w]).getD l.length 0 = w := by
  rw [List.getD_eq_getElem?_getD, List.getElem?_append_right (Nat.le_refl _), Nat.sub_self]
  rfl
theorem cms_add {l : List Int32} {sl : Int32} {ms : Nat → Int32} (w : Int32) (sc ch : Nat → Int32) (h : cms l sl ms) (hl : l.length < 24) : cms (l ++ [w]) (f_SH_add w sl ms sc ch).1 (f_SH_add w sl ms sc ch).2 := by
  have e : f_SH_add w sl ms sc ch = (nI (l.length + 1), upd ms l.length w) := by
    unfold f_SH_add
    rw [h.1, if_neg (by rw [le_lit (l := 24) (c := 24) rfl (by decide) (by omega)]; omega), nI_1, nI_clamp (by omega)]
  rw [e]
  refine ⟨by rw [List.length_append]; rfl, fun i hi => ?_⟩
  rw [List.length_append] at hi
  by_cases q : i = l.length
  · subst q; rw [getD_app_r]; exact pk_us
  · have hi2 : i < l.length := by have : [w].length = 1 := rfl; omega
    rw [getD_app_l hi2]
    exact (pk_un q).trans (h.2 i hi2)
theorem rms_add {l : List Int32} {si : Int32} {tx : Nat → Int64} (w th le lo da : Int32) (h : rms l si tx) (hl : l.length < 24) : rms (l ++ [w]) (f_MO_add w th le lo da si tx).1 (f_MO_add w th le lo da si tx).2 := by
  rw [h.1, mo_ad w th le lo da l.length (by omega) tx]
  refine ⟨by rw [List.length_append]; rfl, fun i hi => ?_⟩
  rw [List.length_append] at hi
  by_cases q : i = l.length
  · subst q; rw [getD_app_r]; exact pk_uLs
  · have hi2 : i < l.length := by have : [w].length = 1 := rfl; omega
    rw [getD_app_l hi2]
    exact (pk_uLn q).trans (h.2 i hi2)
def rowL (rr : Nat → Int32) (a j c : Nat) : List Int32 := (List.range' j c).map fun i => rr (a + i)
def cntL (fi : Int32) (j c : Nat) : List Int32 := (List.range' j c).map fun i => fi + nI i
theorem rowL_0 (rr : Nat → Int32) (a j : Nat) : rowL rr a j 0 = [] := rfl
theorem cntL_0 (fi : Int32) (j : Nat) : cntL fi j 0 = [] := rfl
theorem rowL_s (rr : Nat → Int32) (a j c : Nat) : rowL rr a j (c + 1) = rr (a + j) :: rowL rr a (j + 1) c := by
  unfold rowL; rw [List.range'_succ, List.map_cons]
theorem cntL_s (fi : Int32) (j c : Nat) : cntL fi j (c + 1) = (fi + nI j) :: cntL fi (j + 1) c := by
  unfold cntL; rw [List.range'_succ, List.map_cons]
theorem rowL_len (rr : Nat → Int32) (a j c : Nat) : (rowL rr a j c).length = c := by
  unfold rowL; rw [List.length_map, List.length_range']
theorem cntL_len (fi : Int32) (j c : Nat) : (cntL fi j c).length = c := by
  unfold cntL; rw [List.length_map, List.length_range']
theorem app_s (l : List Int32) (x : Int32) (r : List Int32) : l ++ (x :: r) = (l ++ [x]) ++ r := by
  rw [List.append_assoc]; rfl
theorem rowL_congr {rr rr' : Nat → Int32} {a a' : Nat} : ∀ (c j : Nat), (∀ i, j ≤ i → i < j + c → rr (a + i) = rr' (a' + i)) → rowL rr a j c = rowL rr' a' j c := by
  intro c
  induction c with
  | zero => intro j _; rfl
  | succ c ih =>
    intro j h
    rw [rowL_s, rowL_s, h j (Nat.le_refl _) (by omega), ih (j + 1) (fun i a b => h i (by omega) (by omega))]
theorem cms_rowL (N a c : Nat) (ha : a + c < 2 ^ 31) (sl : Int32) (ms sc ch rr : Nat → Int32) : ∀ (m n j : Nat) (l : List Int32) (y : Int32) (g : Nat → Int32), m = c - j → j ≤ c → m < n → cms l y g → l.length + m ≤ 24 → cms (l ++ rowL rr a j m) (f_SH_addRow_3 N (nI a) (nI c) sl ms sc ch rr n (nI j) y g).1 (f_SH_addRow_3 N (nI a) (nI c) sl ms sc ch rr n (nI j) y g).2 := by
  intro m
  induction m with
  | zero =>
    intro n j l y g hm hj hn h hl
    obtain ⟨n, rfl⟩ : ∃ k, n = k + 1 := ⟨n - 1, by omega⟩
    rw [f_SH_addRow_3, if_pos ((nI_leI (by omega) (by omega)).mpr (by omega)), rowL_0, List.append_nil]
    exact h
  | succ m ih =>
    intro n j l y g hm hj hn h hl
    obtain ⟨n, rfl⟩ : ∃ k, n = k + 1 := ⟨n - 1, by omega⟩
    rw [f_SH_addRow_3, if_neg (fun z => by have := (nI_leI (by omega) (by omega)).mp z; omega), nI_1, nI_add, nI_clamp (by omega), rowL_s, app_s]
    exact ih n (j + 1) (l ++ [rr (a + j)]) _ _ (by omega) (by omega) (by omega) (cms_add _ sc ch h (by omega)) (by rw [List.length_append]; have : [rr (a + j)].length = 1 := rfl; omega)
theorem cms_row {N a c : Nat} {fr co sl : Int32} {ms : Nat → Int32} (sc ch rr : Nat → Int32) {l : List Int32} (hfr : fr = nI a) (hco : co = nI c) (ha : a + c < 2 ^ 31) (h : cms l sl ms) (hl : l.length + c ≤ 24) : cms (l ++ rowL rr a 0 c) (f_SH_addRow N fr co sl ms sc ch rr).1 (f_SH_addRow N fr co sl ms sc ch rr).2 := by
  subst hfr; subst hco
  unfold f_SH_addRow
  rw [nI_toInt (by omega)]
  exact cms_rowL N a c ha sl ms sc ch rr c _ 0 l sl ms (by omega) (by omega) (by omega) h hl
theorem cms_cntL (fi : Int32) (c : Nat) (hc : c < 2 ^ 31) (sl : Int32) (ms sc ch : Nat → Int32) : ∀ (m n j : Nat) (l : List Int32) (y : Int32) (g : Nat → Int32), m = c - j → j ≤ c → m < n → cms l y g → l.length + m ≤ 24 → cms (l ++ cntL fi j m) (f_SH_addCounting_2 fi (nI c) sl ms sc ch n (nI j) y g).1 (f_SH_addCounting_2 fi (nI c) sl ms sc ch n (nI j) y g).2 := by
  intro m
  induction m with
  | zero =>
    intro n j l y g hm hj hn h hl
    obtain ⟨n, rfl⟩ : ∃ k, n = k + 1 := ⟨n - 1, by omega⟩
    rw [f_SH_addCounting_2, if_pos ((nI_leI (by omega) (by omega)).mpr (by omega)), cntL_0, List.append_nil]
    exact h
  | succ m ih =>
    intro n j l y g hm hj hn h hl
    obtain ⟨n, rfl⟩ : ∃ k, n = k + 1 := ⟨n - 1, by omega⟩
    rw [f_SH_addCounting_2, if_neg (fun z => by have := (nI_leI (by omega) (by omega)).mp z; omega), nI_1, cntL_s, app_s]
    exact ih n (j + 1) (l ++ [fi + nI j]) _ _ (by omega) (by omega) (by omega) (cms_add _ sc ch h (by omega)) (by rw [List.length_append]; have : [fi + nI j].length = 1 := rfl; omega)
theorem cms_cnt {c : Nat} {fi co sl : Int32} {ms : Nat → Int32} (sc ch : Nat → Int32) {l : List Int32} (hco : co = nI c) (h : cms l sl ms) (hl : l.length + c ≤ 24) : cms (l ++ cntL fi 0 c) (f_SH_addCounting fi co sl ms sc ch).1 (f_SH_addCounting fi co sl ms sc ch).2 := by
  subst hco
  unfold f_SH_addCounting
  rw [nI_toInt (by omega)]
  exact cms_cntL fi c (by omega) sl ms sc ch c _ 0 l sl ms (by omega) (by omega) (by omega) h hl
theorem rms_rowL (N a c : Nat) (ha : a + c < 2 ^ 31) (th le lo da si : Int32) (tx : Nat → Int64) (rr : Nat → Int32) : ∀ (m n j : Nat) (l : List Int32) (y : Int32) (g : Nat → Int64), m = c - j → j ≤ c → m < n → rms l y g → l.length + m ≤ 24 → rms (l ++ rowL rr a j m) (f_MO_addFrom_3 N (nI a) (nI c) th le lo da si tx rr n (nI j) y g).1 (f_MO_addFrom_3 N (nI a) (nI c) th le lo da si tx rr n (nI j) y g).2 := by
  intro m
  induction m with
  | zero =>
    intro n j l y g hm hj hn h hl
    obtain ⟨n, rfl⟩ : ∃ k, n = k + 1 := ⟨n - 1, by omega⟩
    rw [f_MO_addFrom_3, if_pos ((nI_leI (by omega) (by omega)).mpr (by omega)), rowL_0, List.append_nil]
    exact h
  | succ m ih =>
    intro n j l y g hm hj hn h hl
    obtain ⟨n, rfl⟩ : ∃ k, n = k + 1 := ⟨n - 1, by omega⟩
    rw [f_MO_addFrom_3, if_neg (fun z => by have := (nI_leI (by omega) (by omega)).mp z; omega), nI_1, nI_add, nI_clamp (by omega), rowL_s, app_s]
    exact ih n (j + 1) (l ++ [rr (a + j)]) _ _ (by omega) (by omega) (by omega) (rms_add _ th le lo da h (by omega)) (by rw [List.length_append]; have : [rr (a + j)].length = 1 := rfl; omega)
theorem rms_row {N a c : Nat} {fr co si : Int32} {tx : Nat → Int64} (th le lo da : Int32) (rr : Nat → Int32) {l : List Int32} (hfr : fr = nI a) (hco : co = nI c) (ha : a + c < 2 ^ 31) (h : rms l si tx) (hl : l.length + c ≤ 24) : rms (l ++ rowL rr a 0 c) (f_MO_addFrom N fr co th le lo da si tx rr).1 (f_MO_addFrom N fr co th le lo da si tx rr).2 := by
  subst hfr; subst hco
  unfold f_MO_addFrom
  rw [nI_toInt (by omega)]
  exact rms_rowL N a c ha th le lo da si tx rr c _ 0 l si tx (by omega) (by omega) (by omega) h hl
theorem rms_cntL (fi : Int32) (c : Nat) (hc : c < 2 ^ 31) (th le lo da si : Int32) (tx : Nat → Int64) : ∀ (m n j : Nat) (l : List Int32) (y : Int32) (g : Nat → Int64), m = c - j → j ≤ c → m < n → rms l y g → l.length + m ≤ 24 → rms (l ++ cntL fi j m) (f_MO_addCount_2 fi (nI c) th le lo da si tx n (nI j) y g).1 (f_MO_addCount_2 fi (nI c) th le lo da si tx n (nI j) y g).2 := by
  intro m
  induction m with
  | zero =>
    intro n j l y g hm hj hn h hl
    obtain ⟨n, rfl⟩ : ∃ k, n = k + 1 := ⟨n - 1, by omega⟩
    rw [f_MO_addCount_2, if_pos ((nI_leI (by omega) (by omega)).mpr (by omega)), cntL_0, List.append_nil]
    exact h
  | succ m ih =>
    intro n j l y g hm hj hn h hl
    obtain ⟨n, rfl⟩ : ∃ k, n = k + 1 := ⟨n - 1, by omega⟩
    rw [f_MO_addCount_2, if_neg (fun z => by have := (nI_leI (by omega) (by omega)).mp z; omega), nI_1, cntL_s, app_s]
    exact ih n (j + 1) (l ++ [fi + nI j]) _ _ (by omega) (by omega) (by omega) (rms_add _ th le lo da h (by omega)) (by rw [List.length_append]; have : [fi + nI j].length = 1 := rfl; omega)
theorem rms_cnt {c : Nat} {fi co si : Int32} {tx : Nat → Int64} (th le lo da : Int32) {l : List Int32} (hco : co = nI c) (h : rms l si tx) (hl : l.length + c ≤ 24) : rms (l ++ cntL fi 0 c) (f_MO_addCount fi co th le lo da si tx).1 (f_MO_addCount fi co th le lo da si tx).2 := by
  subst hco
  unfold f_MO_addCount
  rw [nI_toInt (by omega)]
  exact rms_cntL fi c (by omega) th le lo da si tx c _ 0 l si tx (by omega) (by omega) (by omega) h hl
/-! the digest of a list -/
def zA : Nat → Int32 := fun _ => 0
def zL : Nat → Int64 := fun _ => 0
def kcE : Nat → Int64 := fun i => ex (sha_k i)
def bgE : Nat → Int64 := fun i => ex (sha_h i)
def dig (l : List Int32) : Nat → Int32 := (f_SH_finish 8 (nI 0) (nI l.length) (fun i => l.getD i 0) zA zA zA).2.2.2
def kcOk (kc : Nat → Int64) : Prop := ∀ i, i < 64 → kc i = ex (sha_k i)
def bgOk (bg : Nat → Int64) : Prop := ∀ i, i < 8 → bg i = ex (sha_h i)
theorem cp8_in (g : Nat → Int32) (f : Nat) (D : Nat → Int32) (i : Nat) (h : i < 8) : cp8 g f D (f + i) = D i := by
  unfold cp8; rw [if_pos ⟨by omega, by omega⟩, show f + i - f = i by omega]
theorem cp8_in0 (g : Nat → Int32) (D : Nat → Int32) (i : Nat) (h : i < 8) : cp8 g 0 D i = D i := by
  have := cp8_in g 0 D i h
  rwa [Nat.zero_add] at this
theorem cp8_out (g : Nat → Int32) (f : Nat) (D : Nat → Int32) (i : Nat) (h : i < f ∨ f + 8 ≤ i) : cp8 g f D i = g i := by
  unfold cp8; rw [if_neg (by omega)]
theorem cp8_congr (g : Nat → Int32) (f : Nat) {D D' : Nat → Int32} (h : ∀ i, i < 8 → D i = D' i) : cp8 g f D = cp8 g f D' := by
  funext j
  unfold cp8
  by_cases q : f ≤ j ∧ j < f + 8
  · rw [if_pos q, if_pos q]; exact h _ (by omega)
  · rw [if_neg q, if_neg q]
theorem rfin {l : List Int32} {si : Int32} {tx : Nat → Int64} (th le lo da : Int32) {kc bg : Nat → Int64} (wi nw vv : Nat → Int64) (aw_ : Nat → Int32) (hkc : kcOk kc) (hbg : bgOk bg) (h : rms l si tx) (hl : l.length ≤ 24) : (f_MO_hashText th le lo da si kc bg tx wi nw vv aw_).2.2.2.2.2 = cp8 aw_ 0 (dig l) := by
  rw [h.1]
  obtain ⟨D, d0, d1⟩ := hash_rel l.length hl th le lo da kc bg tx wi nw vv aw_ hkc hbg 8 0 (by decide) (fun i => l.getD i 0) zA zA zA h.2
  rw [d1]
  refine cp8_congr _ _ (fun i hi => ?_)
  unfold dig
  rw [d0, cp8_in0 _ _ _ hi]
theorem cfin {l : List Int32} {sl : Int32} {ms : Nat → Int32} (N f : Nat) {fr : Int32} (hfr : fr = nI f) (hf : f + 8 < 2 ^ 31) (sc ch tg : Nat → Int32) (h : cms l sl ms) (hl : l.length ≤ 24) : (f_SH_finish N fr sl ms sc ch tg).2.2.2 = cp8 tg f (dig l) := by
  rw [h.1, hfr]
  have e : rms l (nI l.length) (fun i => ex (l.getD i 0)) := ⟨rfl, fun _ _ => rfl⟩
  obtain ⟨D, d0, d1⟩ := hash_rel l.length hl 0 0 0 0 kcE bgE (fun i => ex (l.getD i 0)) zL zL zL zA (fun _ _ => rfl) (fun _ _ => rfl) N f hf ms sc ch tg (fun i hi => by rw [h.2 i hi])
  rw [rfin (kc := kcE) (bg := bgE) 0 0 0 0 zL zL zL zA (fun _ _ => rfl) (fun _ _ => rfl) e hl] at d1
  rw [d0]
  refine cp8_congr _ _ (fun i hi => ?_)
  have := congrFun d1 i
  rw [cp8_in0 _ _ _ hi, cp8_in0 _ _ _ hi] at this
  exact this.symm

