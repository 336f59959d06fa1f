-- the commands' patterns, and how much of them is matched
section ZPT
variable {K n p k : Nat} {t : Nat → Nat} {sg tx : Nat → Int32}
def zz_pat : List (List Nat) := [[114, 101, 101, 100, 32, 35, 35], [98, 114, 101, 97, 107, 32, 35, 35], [98, 111, 97, 116, 32, 35, 35], [112, 108, 97, 110, 32, 35, 61], [109, 105, 114, 114, 111, 114, 32, 35, 35], [98, 97, 99, 107, 32, 35, 35], [114, 101, 100, 117, 99, 101, 32, 35], [115, 97, 105, 108, 32, 35, 32, 35], [119, 97, 121, 32, 35, 62, 35, 35, 32, 35], [108, 97, 110, 100, 105, 110, 103, 32, 35, 35], [102, 111, 103, 32, 35]]
def zz_pz (k j : Nat) : Nat := (zz_pat.getD k []).getD j 0
def zz_pl (k : Nat) : Nat := (zz_pat.getD k []).length
def zz_wl (k : Nat) : Nat := [5, 6, 5, 5, 7, 5, 7, 5, 4, 8, 4].getD k 0
def zz_wa (k : Nat) : Nat := [0, 5, 11, 16, 21, 28, 33, 40, 45, 49, 57, 61].getD k 0
theorem zz_pat1 : ∀ k, k < 11 → mm_pl k = nI (zz_pl k) ∧ mm_len.getD k 0 = zz_pl k ∧ 5 ≤ zz_pl k ∧ zz_pl k ≤ 10 ∧ zz_wl k < zz_pl k ∧ 4 ≤ zz_wl k ∧ zz_wl k ≤ 8 ∧ zz_wa (k + 1) = zz_wa k + zz_wl k ∧ zz_wa (k + 1) ≤ 61 := by decide +kernel
theorem zz_pat2 : ∀ k, k < 11 → ∀ j, j < 10 → mm_pc k j = nI (zz_pz k j) ∧ (j < zz_pl k → 32 ≤ zz_pz k j ∧ zz_pz k j ≤ 126) ∧ (j < zz_wl k → zz_pz k j ≠ 35) := by decide +kernel
theorem zz_pat3 : ∀ k, k < 11 → ∀ j, j < 11 → j ≠ k → zz_an (fun d => decide (d < zz_wl k ∧ d < zz_wl j ∧ zz_pz k d ≠ zz_pz j d)) 8 = true := by decide +kernel
def zz_ok (t : Nat → Nat) (n p c j : Nat) : Bool := decide (p + j < n ∧ if c = 35 then 48 ≤ t (p + j) ∧ t (p + j) ≤ 57 else t (p + j) = c)
def zz_m (t : Nat → Nat) (n p k : Nat) : Nat := (zz_fi (fun j => !(zz_ok t n p (zz_pz k j) j)) (zz_pl k)).getD (zz_pl k)
theorem zz_m_s : zz_m t n p k ≤ zz_pl k ∧ (∀ j, j < zz_m t n p k → zz_ok t n p (zz_pz k j) j = true) ∧ (zz_m t n p k < zz_pl k → zz_ok t n p (zz_pz k (zz_m t n p k)) (zz_m t n p k) = false) := by
  unfold zz_m
  cases e : zz_fi (fun j => !(zz_ok t n p (zz_pz k j) j)) (zz_pl k) with
  | none =>
    show zz_pl k ≤ zz_pl k ∧ (∀ j, j < zz_pl k → _) ∧ (zz_pl k < zz_pl k → _)
    refine ⟨Nat.le_refl _, fun j hj => ?_, fun q => absurd q (Nat.lt_irrefl _)⟩
    have := zz_fi_none e j hj
    simpa using this
  | some r =>
    obtain ⟨h1, h2, h3⟩ := zz_fi_some e
    show r ≤ zz_pl k ∧ (∀ j, j < r → _) ∧ (r < zz_pl k → _)
    refine ⟨by omega, fun j hj => ?_, fun _ => ?_⟩
    · have := h3 j hj
      simpa using this
    · simpa using h2
theorem zz_m_i {x : Nat} : x ≤ zz_m t n p k ↔ x ≤ zz_pl k ∧ ∀ j, j < x → zz_ok t n p (zz_pz k j) j = true := by
  obtain ⟨h1, h2, h3⟩ := zz_m_s (t := t) (n := n) (p := p) (k := k)
  constructor
  · intro h
    exact ⟨by omega, fun j hj => h2 j (by omega)⟩
  · intro ⟨a, b⟩
    rcases Nat.lt_or_ge (zz_m t n p k) x with q | q
    · have e1 := b _ q
      rw [h3 (by omega)] at e1
      cases e1
    · exact q
theorem zz_m_n (h : 0 < zz_m t n p k) : p + zz_m t n p k ≤ n := by
  have h2 := (zz_m_s (t := t) (n := n) (p := p) (k := k)).2.1 (zz_m t n p k - 1) (by omega)
  have := (of_decide_eq_true h2).1
  omega
theorem zz_uni {j : Nat} (hk : k < 11) (hj : j < 11) (hjk : j ≠ k) (h : zz_wl k ≤ zz_m t n p k) : zz_m t n p j < zz_wl k ∧ zz_m t n p j < zz_wl j := by
  obtain ⟨d, hd, hd2⟩ := zz_an_t.mp (zz_pat3 k hk j hj hjk)
  obtain ⟨d1, d2, d3⟩ := of_decide_eq_true hd2
  have h1 := (zz_m_s (t := t) (n := n) (p := p) (k := k)).2.1 d (by omega)
  have : ¬ (d + 1 ≤ zz_m t n p j) := by
    intro q
    have h2 := (zz_m_s (t := t) (n := n) (p := p) (k := j)).2.1 d (by omega)
    have g1 := of_decide_eq_true h1
    have g2 := of_decide_eq_true h2
    rw [if_neg ((zz_pat2 k hk d (by omega)).2.2 d1)] at g1
    rw [if_neg ((zz_pat2 j hj d (by omega)).2.2 d2)] at g2
    exact d3 (g1.2.symm.trans g2.2)
  omega
theorem zc_signV (h : zz_Tx n t sg tx) {i : Nat} (hi : i < 2 ^ 31) : f_X10_signAt sg (nI n) (nI i) = some (if i < n then nI (t i) else 0) := by
  by_cases e : i < n
  · rw [if_pos e, zc_signAt h e]
  · rw [if_neg e, zc_signAt_n h (by omega) hi]
theorem zc_fits (h : zz_Tx n t sg tx) {c j : Nat} (hc : 32 ≤ c) (hc2 : c ≤ 126) : f_X1_fits (nI c) (if p + j < n then nI (t (p + j)) else 0) = some (zz_B (zz_ok t n p c j)) := by
  rw [f_X1_fits, zz_l35, zz_l48, zz_l57]
  unfold zz_ok
  by_cases e : p + j < n
  · obtain ⟨a1, a2, _, _⟩ := h.2 _ e
    rw [if_pos e]
    by_cases g : c = 35
    · rw [if_pos (congrArg nI g)]
      by_cases u : t (p + j) < 48
      · rw [if_pos (nI_lt u (by decide)), decide_eq_false (fun q => by rw [if_pos g] at q; omega)]
        rfl
      · rw [if_neg (nI_nlt (by omega) (by omega))]
        by_cases w : 57 < t (p + j)
        · rw [if_pos (nI_lt w (by omega)), decide_eq_false (fun q => by rw [if_pos g] at q; omega)]
          rfl
        · rw [if_neg (nI_nlt (by omega) (by omega)), decide_eq_true ⟨e, by rw [if_pos g]; omega⟩]
          rfl
    · rw [if_neg (zz_ne g (by omega) (by decide))]
      by_cases u : t (p + j) = c
      · rw [if_pos (congrArg nI u), decide_eq_true ⟨e, by rw [if_neg g]; exact u⟩]
        rfl
      · rw [if_neg (zz_ne u (by omega) (by omega)), decide_eq_false (fun q => by rw [if_neg g] at q; exact u q.2)]
        rfl
  · rw [if_neg e, decide_eq_false (fun q => e q.1)]
    by_cases g : c = 35
    · rw [if_pos (congrArg nI g), if_pos (by decide)]
      rfl
    · rw [if_neg (zz_ne g (by omega) (by decide)), zz_l0, if_neg (zz_ne (by omega) (by decide) (by omega))]
      rfl
theorem zc_matched (h : zz_Tx n t sg tx) (hK : 100 ≤ K) (hk : k < 11) (hp : p ≤ 60) : f_X1_matchedSigns K sg (nI n) (nI p) k = some (nI (zz_m t n p k)) := by
  obtain ⟨h1, h2, h3⟩ := zz_m_s (t := t) (n := n) (p := p) (k := k)
  obtain ⟨g1, g2, g3, g4, _⟩ := zz_pat1 k hk
  have hL : f_X1_matchedSigns_L2 sg (nI n) (nI p) k K (nI 0) = some (nI (zz_m t n p k)) := by
    refine zz_for0 (fun K' j (_ : Unit) => f_X1_matchedSigns_L2 sg (nI n) (nI p) k K' (nI j)) (zz_m t n p k) (fun _ _ => True) (fun z => z = some (nI (zz_m t n p k))) ?_ ?_ K () (by omega) trivial
    · intro r _ _
      show f_X1_matchedSigns_L2 sg (nI n) (nI p) k (r + 1) (nI (zz_m t n p k)) = _
      rw [f_X1_matchedSigns_L2, g1, g2]
      by_cases e : zz_pl k ≤ zz_m t n p k
      · rw [if_pos (nI_le e (by omega))]
      · obtain ⟨q1, q2, _⟩ := zz_pat2 k hk (zz_m t n p k) (by omega)
        have := q2 (by omega)
        rw [if_neg (nI_ge (by omega) (by omega)), zz_g (by omega) (by omega), nI_add, zc_signV h (by omega), zz_b, nI_clamp (by omega), q1, zc_fits h (by omega) (by omega), zz_b, h3 (by omega), zz_Bf, if_pos rfl]
    · intro r j _ hj _ ih
      show f_X1_matchedSigns_L2 sg (nI n) (nI p) k (r + 1) (nI j) = _
      obtain ⟨q1, q2, _⟩ := zz_pat2 k hk j (by omega)
      have := q2 (by omega)
      rw [f_X1_matchedSigns_L2, g1, g2, if_neg (nI_ge (by omega) (by omega)), zz_g (by omega) (by omega), nI_add, zc_signV h (by omega), zz_b, nI_clamp (by omega), q1, zc_fits h (by omega) (by omega), zz_b, h2 j hj, zz_Bt, if_neg (by decide), nI_1]
      exact ih () trivial
  rw [f_X1_matchedSigns]
  show (f_X1_matchedSigns_L2 sg (nI n) (nI p) k K (nI 0)).bind _ = _
  rw [hL]
  rfl
def zz_kd (t : Nat → Nat) (n p : Nat) : Option Nat := zz_fi (fun k => decide (zz_m t n p k = zz_pl k)) 11
theorem zc_kindAt (h : zz_Tx n t sg tx) (hK : 100 ≤ K) (hp : p ≤ 60) : f_X2_kindAt K sg (nI n) (nI p) = some (zz_o (zz_kd t n p)) := by
  rw [f_X2_kindAt]
  show f_X2_kindAt_L2 K sg (nI n) (nI p) K (nI 0) = _
  refine zz_for0 (fun K' j (_ : Unit) => f_X2_kindAt_L2 K sg (nI n) (nI p) K' (nI j)) 11 (fun j _ => zz_fi (fun k => decide (zz_m t n p k = zz_pl k)) j = none) (fun z => z = some (zz_o (zz_kd t n p))) ?_ ?_ K () (by omega) rfl
  · intro r _ e
    show f_X2_kindAt_L2 K sg (nI n) (nI p) (r + 1) (nI 11) = _
    rw [f_X2_kindAt_L2, if_pos (by decide), zz_kd, e]
    rfl
  · intro r j _ hj e ih
    show f_X2_kindAt_L2 K sg (nI n) (nI p) (r + 1) (nI j) = _
    have h1 := (zz_m_s (t := t) (n := n) (p := p) (k := j)).1
    obtain ⟨g1, g2, g3, g4, _⟩ := zz_pat1 j hj
    rw [f_X2_kindAt_L2, zz_l11, if_neg (nI_ge hj (by decide)), zz_g hj (by decide), nI_clamp (by omega), zc_matched h hK hj hp, zz_b, zz_g hj (by decide), g1]
    by_cases q : zz_m t n p j = zz_pl j
    · rw [if_pos (congrArg nI q), zz_kd, zz_fi_y e (decide_eq_true q) hj]
      rfl
    · rw [if_neg (zz_ne q (by omega) (by omega)), nI_1]
      exact ih () (zz_fi_n e (decide_eq_false q))
def zz_hi (f : Nat → Nat) : Nat → Nat
  | 0 => 0
  | i + 1 => if zz_hi f i < f i then f i else zz_hi f i
theorem zz_hi_ge {f : Nat → Nat} : ∀ {i : Nat}, ∀ j, j < i → f j ≤ zz_hi f i
  | 0, j, h => absurd h (Nat.not_lt_zero _)
  | i + 1, j, h => by
    show f j ≤ if zz_hi f i < f i then f i else zz_hi f i
    by_cases e : j = i
    · subst e
      split <;> omega
    · have := zz_hi_ge (f := f) (i := i) j (by omega)
      split <;> omega
theorem zz_hi_in {f : Nat → Nat} : ∀ {i : Nat}, zz_hi f i = 0 ∨ ∃ j, j < i ∧ f j = zz_hi f i
  | 0 => Or.inl rfl
  | i + 1 => by
    show (if zz_hi f i < f i then f i else zz_hi f i) = 0 ∨ ∃ j, j < i + 1 ∧ f j = if zz_hi f i < f i then f i else zz_hi f i
    by_cases e : zz_hi f i < f i
    · rw [if_pos e]
      exact Or.inr ⟨i, by omega, rfl⟩
    · rw [if_neg e]
      rcases zz_hi_in (f := f) (i := i) with q | ⟨j, q1, q2⟩
      · exact Or.inl q
      · exact Or.inr ⟨j, by omega, q2⟩
theorem zz_hi_10 : zz_hi (zz_m t n p) 11 ≤ 10 := by
  rcases zz_hi_in (f := zz_m t n p) (i := 11) with q | ⟨j, q1, q2⟩
  · omega
  · have h1 := (zz_m_s (t := t) (n := n) (p := p) (k := j)).1
    obtain ⟨g1, g2, g3, g4, _⟩ := zz_pat1 j q1
    omega
theorem zc_longest (h : zz_Tx n t sg tx) (hK : 100 ≤ K) (hp : p ≤ 60) : f_X2_longestMatch K sg (nI n) (nI p) = some (nI (zz_hi (zz_m t n p) 11)) := by
  have hL : f_X2_longestMatch_L4 K sg (nI n) (nI p) K (nI 0) (nI 0) = some (nI (zz_hi (zz_m t n p) 11)) := by
    refine zz_for0 (fun K' j (a : Int32) => f_X2_longestMatch_L4 K sg (nI n) (nI p) K' a (nI j)) 11 (fun j a => a = nI (zz_hi (zz_m t n p) j) ∧ zz_hi (zz_m t n p) j ≤ 10) (fun z => z = some (nI (zz_hi (zz_m t n p) 11))) ?_ ?_ K (nI 0) (by omega) ⟨rfl, Nat.zero_le _⟩
    · intro r a e
      show f_X2_longestMatch_L4 K sg (nI n) (nI p) (r + 1) a (nI 11) = _
      rw [f_X2_longestMatch_L4, if_pos (by decide), e.1]
    · intro r j a hj e ih
      show f_X2_longestMatch_L4 K sg (nI n) (nI p) (r + 1) a (nI j) = _
      have h1 := (zz_m_s (t := t) (n := n) (p := p) (k := j)).1
      obtain ⟨g1, g2, g3, g4, _⟩ := zz_pat1 j hj
      rw [f_X2_longestMatch_L4, zz_l11, if_neg (nI_ge hj (by decide)), zz_g hj (by decide), nI_clamp (by omega), zc_matched h hK hj hp, zz_b, e.1, nI_1]
      have e2 := e.2
      by_cases q : zz_hi (zz_m t n p) j < zz_m t n p j
      · rw [if_pos (nI_lt q (by omega))]
        refine ih _ ⟨?_, ?_⟩
        · show _ = nI (if zz_hi (zz_m t n p) j < zz_m t n p j then zz_m t n p j else zz_hi (zz_m t n p) j)
          rw [if_pos q]
        · show (if zz_hi (zz_m t n p) j < zz_m t n p j then zz_m t n p j else zz_hi (zz_m t n p) j) ≤ 10
          rw [if_pos q]; omega
      · rw [if_neg (nI_nlt (by omega) (by omega))]
        refine ih _ ⟨?_, ?_⟩
        · show _ = nI (if zz_hi (zz_m t n p) j < zz_m t n p j then zz_m t n p j else zz_hi (zz_m t n p) j)
          rw [if_neg q]
        · show (if zz_hi (zz_m t n p) j < zz_m t n p j then zz_m t n p j else zz_hi (zz_m t n p) j) ≤ 10
          rw [if_neg q]; omega
  rw [f_X2_longestMatch]
  show (f_X2_longestMatch_L4 K sg (nI n) (nI p) K (nI 0) (nI 0)).bind _ = _
  rw [hL]
  rfl
/-- the places of the numbers in a pattern -/
def zz_hc (k j : Nat) : Nat := zz_sm (fun i => if zz_pz k i = 35 then 1 else 0) j
theorem zz_hc_le (k : Nat) : ∀ j, zz_hc k j ≤ j
  | 0 => Nat.le_refl 0
  | j + 1 => by
    have := zz_hc_le k j
    show zz_hc k j + (if zz_pz k j = 35 then 1 else 0) ≤ j + 1
    split <;> omega
theorem zz_hc_m (k : Nat) {i j : Nat} (h : i ≤ j) : zz_hc k i ≤ zz_hc k j := zz_sm_m h
theorem zc_number (h : zz_Tx n t sg tx) (hK : 100 ≤ K) (hk : k < 11) (hp : p ≤ 60) {d i : Nat} (hd : d < zz_pl k) (h35 : zz_pz k d = 35) (hi : zz_hc k d = i) (hn : p + d < n) : f_X1_number K sg (nI n) (nI p) (nI i) k = some (nI (t (p + d)) - 48) := by
  obtain ⟨g1, g2, g3, g4, _⟩ := zz_pat1 k hk
  have hi9 := zz_hc_le k d
  rw [f_X1_number]
  show f_X1_number_L6 sg (nI n) (nI p) (nI i) k K (nI 0) (nI 0) = _
  refine zz_for0 (fun K' j (a : Int32) => f_X1_number_L6 sg (nI n) (nI p) (nI i) k K' a (nI j)) d (fun j a => a = nI (zz_hc k j)) (fun z => z = some (nI (t (p + d)) - 48)) ?_ ?_ K (nI 0) (by omega) rfl
  · intro r a e
    show f_X1_number_L6 sg (nI n) (nI p) (nI i) k (r + 1) a (nI d) = _
    rw [f_X1_number_L6, g1, g2, if_neg (nI_ge hd (by omega)), zz_g hd (by omega), nI_clamp (by omega), (zz_pat2 k hk d (by omega)).1, h35, if_pos (show nI 35 = 35 by decide), e, hi, if_pos rfl, nI_add, zc_signAt h hn]
    rfl
  · intro r j a hj e ih
    show f_X1_number_L6 sg (nI n) (nI p) (nI i) k (r + 1) a (nI j) = _
    have hj9 := zz_hc_le k j
    have hm := zz_hc_m k (show j + 1 ≤ d by omega)
    rw [f_X1_number_L6, g1, g2, if_neg (nI_ge (by omega) (by omega)), zz_g (by omega) (by omega), nI_clamp (by omega), (zz_pat2 k hk j (by omega)).1, zz_l35, e, nI_1, nI_1]
    have h126 := (zz_pat2 k hk j (by omega)).2.1 (by omega)
    by_cases q : zz_pz k j = 35
    · have hs : zz_hc k (j + 1) = zz_hc k j + 1 := by
        show zz_hc k j + (if zz_pz k j = 35 then 1 else 0) = _
        rw [if_pos q]
      rw [if_pos (congrArg nI q), if_neg (zz_ne (by omega) (by omega) (by omega))]
      exact ih _ (by rw [hs])
    · have hs : zz_hc k (j + 1) = zz_hc k j := by
        show zz_hc k j + (if zz_pz k j = 35 then 1 else 0) = _
        rw [if_neg q]
        rfl
      rw [if_neg (zz_ne q (by omega) (by decide))]
      exact ih _ (by rw [hs])
theorem zc_number0 (hK : 100 ≤ K) (hk : k < 11) {i : Nat} (hi2 : i < 10) (hi : zz_hc k (zz_pl k) ≤ i) : f_X1_number K sg (nI n) (nI p) (nI i) k = some 0 := by
  obtain ⟨g1, g2, g3, g4, _⟩ := zz_pat1 k hk
  rw [f_X1_number]
  show f_X1_number_L6 sg (nI n) (nI p) (nI i) k K (nI 0) (nI 0) = _
  refine zz_for0 (fun K' j (a : Int32) => f_X1_number_L6 sg (nI n) (nI p) (nI i) k K' a (nI j)) (zz_pl k) (fun j a => a = nI (zz_hc k j)) (fun z => z = some 0) ?_ ?_ K (nI 0) (by omega) rfl
  · intro r a e
    show f_X1_number_L6 sg (nI n) (nI p) (nI i) k (r + 1) a (nI (zz_pl k)) = _
    rw [f_X1_number_L6, g1, if_pos (nI_le (Nat.le_refl _) (by omega))]
  · intro r j a hj e ih
    show f_X1_number_L6 sg (nI n) (nI p) (nI i) k (r + 1) a (nI j) = _
    have hj9 := zz_hc_le k j
    have hm := zz_hc_m k (show j + 1 ≤ zz_pl k by omega)
    rw [f_X1_number_L6, g1, g2, if_neg (nI_ge (by omega) (by omega)), zz_g (by omega) (by omega), nI_clamp (by omega), (zz_pat2 k hk j (by omega)).1, zz_l35, e, nI_1, nI_1]
    have h126 := (zz_pat2 k hk j (by omega)).2.1 (by omega)
    by_cases q : zz_pz k j = 35
    · have hs : zz_hc k (j + 1) = zz_hc k j + 1 := by
        show zz_hc k j + (if zz_pz k j = 35 then 1 else 0) = _
        rw [if_pos q]
      rw [if_pos (congrArg nI q), if_neg (zz_ne (by omega) (by omega) (by omega))]
      exact ih _ (by rw [hs])
    · have hs : zz_hc k (j + 1) = zz_hc k j := by
        show zz_hc k j + (if zz_pz k j = 35 then 1 else 0) = _
        rw [if_neg q]
        rfl
      rw [if_neg (zz_ne q (by omega) (by decide))]
      exact ih _ (by rw [hs])
end ZPT
