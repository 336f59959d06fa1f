/-- geometry, in natural numbers -/
def zz_i (c : Nat) : Nat := c + 8 - 2 * (c % 9)
def zz_nb (c m : Nat) : Option Nat := if m = 0 then (if c / 9 < 8 then some (c + 9) else none) else if m = 1 then (if 0 < c / 9 then some (c - 9) else none) else if m = 2 then (if 0 < c % 9 then some (c - 1) else none) else (if c % 9 < 8 then some (c + 1) else none)
def zz_di (a b : Nat) : Nat := (a % 9 - b % 9) + (b % 9 - a % 9) + ((a / 9 - b / 9) + (b / 9 - a / 9))
def zz_pc (a b : Nat) : Nat := if zz_di a (zz_i b) < zz_di a b then zz_di a (zz_i b) else zz_di a b
def zz_L (m : Nat) : Nat := if m = 0 then 85 else if m = 1 then 68 else if m = 2 then 76 else 82
def zz_mi (m : Nat) : Nat := if m < 2 then m else 5 - m
def zz_opp (m : Nat) : Nat := if m % 2 = 0 then m + 1 else m - 1
theorem zc_column : ∀ c, c < 81 → f_X12_column (nI c) = some (nI (c % 9)) := by decide +kernel
theorem zc_row : ∀ c, c < 81 → f_X12_row (nI c) = some (nI (c / 9)) := by decide +kernel
theorem zc_image : ∀ c, c < 81 → f_X12_image (nI c) = some (nI (zz_i c)) := by decide +kernel
theorem zm_image : ∀ c, c < 81 → f_X13_image (nI c) = some (nI (zz_i c)) := by decide +kernel
theorem zz_i_lt : ∀ c, c < 81 → zz_i c < 81 := by decide +kernel
theorem zz_i_i : ∀ c, c < 81 → zz_i (zz_i c) = c := by decide +kernel
theorem zz_i_col : ∀ c, c < 81 → zz_i c % 9 = 8 - c % 9 := by decide +kernel
theorem zc_neighbour : ∀ c, c < 81 → ∀ m, m < 4 → f_X12_neighbour (nI c) (nI m) = some (zz_o (zz_nb c m)) := by decide +kernel
theorem zz_nb_lt : ∀ c, c < 81 → ∀ m, m < 4 → ∀ d, zz_nb c m = some d → d < 81 := by
  intro c hc m hm d h
  unfold zz_nb at h
  split at h
  · split at h
    · cases h; omega
    · cases h
  · split at h
    · split at h
      · cases h; omega
      · cases h
    · split at h
      · split at h
        · cases h; omega
        · cases h
      · split at h
        · cases h; omega
        · cases h
theorem zc_distance : ∀ a, a < 81 → ∀ b, b < 81 → f_X12_distance (nI a) (nI b) = some (nI (zz_di a b)) := by decide +kernel
theorem zm_apart : ∀ a, a < 81 → ∀ b, b < 81 → f_X13_apart (nI a) (nI b) = some (nI (zz_di a b)) := by decide +kernel
theorem zz_di_lt : ∀ a, a < 81 → ∀ b, b < 81 → zz_di a b < 20 := by
  intro a ha b hb
  unfold zz_di
  omega
theorem zz_pc_lt {a b : Nat} (ha : a < 81) (hb : b < 81) : zz_pc a b < 20 := by
  unfold zz_pc
  split
  · exact zz_di_lt _ ha _ (zz_i_lt _ hb)
  · exact zz_di_lt _ ha _ hb
theorem zc_letter : ∀ m, m < 4 → f_X12_letter (nI m) = some (nI (zz_L m)) := by decide +kernel
theorem zm_letter : ∀ m, m < 4 → f_X13_letter (nI m) = some (nI (zz_L m)) := by decide +kernel
theorem zz_L_lt : ∀ m, m < 4 → zz_L m < 127 ∧ 32 ≤ zz_L m := by decide +kernel
theorem zc_mirrored : ∀ m, m < 4 → f_X12_mirrored (nI m) = some (nI (zz_mi m)) := by decide +kernel
theorem zm_mirrored : ∀ m, m < 4 → f_X13_mirrored (nI m) = some (nI (zz_mi m)) := by decide +kernel
theorem zz_mi_lt : ∀ m, m < 4 → zz_mi m < 4 := by decide +kernel
theorem zc_opposite : ∀ m, m < 4 → f_X12_opposite (nI m) = some (nI (zz_opp m)) := by decide +kernel
theorem zz_xor : ∀ m, m < 4 → (nI m) ^^^ 1 = nI (zz_opp m) := by decide +kernel
theorem zz_opp_lt : ∀ m, m < 4 → zz_opp m < 4 := by decide +kernel
theorem zz_opp_opp : ∀ m, m < 4 → zz_opp (zz_opp m) = m := by decide +kernel
theorem zm_steps : ∀ x, x < 9 → ∀ y, y < 9 → ∀ m, m < 4 → (match zz_nb (9 * y + x) m with
    | some c => decide (f_X13_steps (nI x) (nI y) (nI m) = some (1, nI (c % 9), nI (c / 9)))
    | none => decide ((f_X13_steps (nI x) (nI y) (nI m)).map (fun q => q.1) = some 0)) = true := by decide +kernel
theorem zm_step_y {x y m c : Nat} (hx : x < 9) (hy : y < 9) (hm : m < 4) (h : zz_nb (9 * y + x) m = some c) : f_X13_steps (nI x) (nI y) (nI m) = some (1, nI (c % 9), nI (c / 9)) := by
  have := zm_steps x hx y hy m hm
  rw [h] at this
  exact of_decide_eq_true this
theorem zm_step_n {x y m : Nat} (hx : x < 9) (hy : y < 9) (hm : m < 4) (h : zz_nb (9 * y + x) m = none) : ∃ a b, f_X13_steps (nI x) (nI y) (nI m) = some (0, a, b) := by
  have := zm_steps x hx y hy m hm
  rw [h] at this
  have := of_decide_eq_true this
  cases e : f_X13_steps (nI x) (nI y) (nI m) with
  | none => rw [e] at this; cases this
  | some q =>
    rw [e] at this
    have h2 : some q.1 = some 0 := this
    obtain ⟨a, b, c⟩ := q
    have h3 : a = 0 := Option.some.inj h2
    subst h3
    exact ⟨_, _, rfl⟩
/-- an int and a bound -/
theorem zz_ix (x : Int32) {n : Nat} (hn : n < 2 ^ 31) : (x < 0 ∧ ¬ 0 ≤ x) ∨ (¬ x < 0 ∧ 0 ≤ x ∧ nI n ≤ x ∧ ¬ x < nI n ∧ (nI n - 1) < x ∧ ¬ x ≤ nI n - 1) ∨ ∃ a : Nat, a < n ∧ x = nI a := by
  have hs : (nI n - 1).toInt = (n : Int) - 1 := by
    cases n with
    | zero => decide
    | succ n => rw [nI_pred, nI_toInt (by omega)]; omega
  have h0 : (0 : Int32).toInt = 0 := rfl
  rcases pk_ix x hn with h | h | h
  · refine Or.inl ⟨h, ?_⟩
    rw [Int32.le_iff_toInt_le]
    rw [Int32.lt_iff_toInt_lt] at h
    omega
  · refine Or.inr (Or.inl ?_)
    rw [Int32.le_iff_toInt_le, nI_toInt hn] at h
    simp only [Int32.le_iff_toInt_le, Int32.lt_iff_toInt_lt, hs, h0, nI_toInt hn]
    omega
  · exact Or.inr (Or.inr h)
theorem zm_isIn (x : Int32) {n : Nat} (hn : n < 2 ^ 31) : (f_X13_isIn x 0 (nI n - 1) = some 0 ∧ ((x < 0 ∧ ¬ 0 ≤ x) ∨ (¬ x < 0 ∧ 0 ≤ x ∧ nI n ≤ x ∧ ¬ x < nI n))) ∨ ∃ a : Nat, a < n ∧ x = nI a ∧ f_X13_isIn x 0 (nI n - 1) = some 1 := by
  rcases zz_ix x hn with ⟨h1, h2⟩ | ⟨h1, h2, h3, h4, h5, h6⟩ | ⟨a, ha, rfl⟩
  · refine Or.inl ⟨?_, Or.inl ⟨h1, h2⟩⟩
    rw [f_X13_isIn, if_pos h1]
  · refine Or.inl ⟨?_, Or.inr ⟨h1, h2, h3, h4⟩⟩
    rw [f_X13_isIn, if_neg h1, if_pos h5]
  · refine Or.inr ⟨a, ha, rfl, ?_⟩
    obtain ⟨m, rfl⟩ : ∃ m, n = m + 1 := ⟨n - 1, by omega⟩
    rw [f_X13_isIn, if_neg (nI_pos (by omega)), nI_pred, if_neg (nI_nlt (by omega) (by omega))]
theorem zz_cell (x y : Int32) : (f_X12_cellAt x y = some (-1) ∧ f_X13_isCell x y = some 0) ∨ ∃ a b : Nat, a < 9 ∧ b < 9 ∧ x = nI a ∧ y = nI b ∧ f_X12_cellAt x y = some (nI (9 * b + a)) ∧ f_X13_isCell x y = some 1 ∧ f_X13_cell x y = some (nI (9 * b + a)) := by
  have e8 : (8 : Int32) = nI 9 - 1 := by decide
  have e9 : (9 : Int32) = nI 9 := rfl
  unfold f_X12_cellAt f_X13_isCell
  rw [e8, e9]
  rcases zm_isIn x (n := 9) (by decide) with ⟨h, h2⟩ | ⟨a, ha, rfl, h⟩
  · refine Or.inl ⟨?_, ?_⟩
    · rcases h2 with h2 | h2
      · rw [if_pos h2.1]
      · rw [if_neg h2.1, if_pos h2.2.2.1]
    · rw [h]; rfl
  · rw [if_neg (nI_pos (n := a) (by omega)), if_neg (nI_ge (a := a) (b := 9) ha (by decide)), h]
    rcases zm_isIn y (n := 9) (by decide) with ⟨g, h2⟩ | ⟨b, hb, rfl, g⟩
    · refine Or.inl ⟨?_, ?_⟩
      · rcases h2 with h2 | h2
        · rw [if_pos h2.1]
        · rw [if_neg h2.1, if_pos h2.2.2.1]
      · rw [zz_b, if_neg (by decide), g]; rfl
    · refine Or.inr ⟨a, b, ha, hb, rfl, rfl, ?_, ?_, ?_⟩
      · rw [if_neg (nI_pos (n := b) (by omega)), if_neg (nI_ge (a := b) (b := 9) hb (by decide)), pk_mul, nI_add, Nat.mul_comm]
      · rw [zz_b, if_neg (by decide), g]; rfl
      · unfold f_X13_cell
        rw [e9, pk_mul, nI_add]
theorem zz_plan (x : Int32) : (f_X12_isPlan x = some 0 ∧ f_X13_isPlan x = some 0) ∨ ∃ p : Nat, p < 6 ∧ x = nI p ∧ f_X12_isPlan x = some 1 ∧ f_X13_isPlan x = some 1 := by
  have e5 : (5 : Int32) = nI 6 - 1 := by decide
  have e6 : (6 : Int32) = nI 6 := rfl
  unfold f_X12_isPlan f_X13_isPlan
  rw [e5, e6]
  rcases zm_isIn x (n := 6) (by decide) with ⟨h, h2⟩ | ⟨a, ha, rfl, h⟩
  · refine Or.inl ⟨?_, ?_⟩
    · rcases h2 with h2 | h2
      · rw [if_pos h2.1]
      · rw [if_neg h2.1, if_pos h2.2.2.1]
    · rw [h, zz_b, zz_d (Or.inl rfl)]
  · refine Or.inr ⟨a, ha, rfl, ?_, ?_⟩
    · rw [if_neg (nI_pos (n := a) (by omega)), if_neg (nI_ge (a := a) (b := 6) ha (by decide))]
    · rw [h, zz_b, zz_d (Or.inr rfl)]
def zz_mv (x : Int32) : Option Nat := if x = 85 then some 0 else if x = 68 then some 1 else if x = 76 then some 2 else if x = 82 then some 3 else none
theorem zm_move (x : Int32) : f_X13_move x = some (zz_o (zz_mv x)) := by
  unfold f_X13_move zz_mv
  split
  · rfl
  · split
    · rfl
    · split
      · rfl
      · split <;> rfl
theorem zz_mv_lt {x : Int32} {m : Nat} (h : zz_mv x = some m) : m < 4 ∧ x = nI (zz_L m) := by
  unfold zz_mv at h
  split at h
  · rename_i e; cases h; exact ⟨by decide, e⟩
  · split at h
    · rename_i e; cases h; exact ⟨by decide, e⟩
    · split at h
      · rename_i e; cases h; exact ⟨by decide, e⟩
      · split at h
        · rename_i e; cases h; exact ⟨by decide, e⟩
        · cases h
theorem zz_mv_L : ∀ m, m < 4 → zz_mv (nI (zz_L m)) = some m := by decide +kernel
theorem zc_moveOf {K : Nat} (hK : 5 ≤ K) (x : Int32) : f_X12_moveOf K x = some (zz_o (zz_mv x)) := by
  have h : ∀ n i, i < 4 → f_X12_moveOf_L2 x (n + 1) (nI i) = if nI (zz_L i) = x then some (nI i) else f_X12_moveOf_L2 x n (nI (i + 1)) := by
    intro n i hi
    have e : mm_tL i = nI (zz_L i) := by
      rcases (show i = 0 ∨ i = 1 ∨ i = 2 ∨ i = 3 by omega) with rfl | rfl | rfl | rfl <;> decide
    rw [f_X12_moveOf_L2, zz_l4, if_neg (nI_ge hi (by decide)), zz_g hi (by decide), nI_clamp (by omega), e, nI_1]
  obtain ⟨k, rfl⟩ : ∃ k, K = k + 5 := ⟨K - 5, by omega⟩
  have h4 : f_X12_moveOf_L2 x (k + 1) (nI 4) = some (-1) := by
    rw [f_X12_moveOf_L2, if_pos (by decide)]
  rw [f_X12_moveOf]
  show f_X12_moveOf_L2 x (k + 5) (nI 0) = _
  rw [h (k + 4) 0 (by decide), h (k + 3) 1 (by decide), h (k + 2) 2 (by decide), h (k + 1) 3 (by decide), h4, show nI (zz_L 0) = 85 by decide, show nI (zz_L 1) = 68 by decide, show nI (zz_L 2) = 76 by decide, show nI (zz_L 3) = 82 by decide]
  unfold zz_mv
  by_cases e0 : x = 85
  · rw [if_pos e0.symm, if_pos e0]; rfl
  · rw [if_neg (fun e => e0 e.symm), if_neg e0]
    by_cases e1 : x = 68
    · rw [if_pos e1.symm, if_pos e1]; rfl
    · rw [if_neg (fun e => e1 e.symm), if_neg e1]
      by_cases e2 : x = 76
      · rw [if_pos e2.symm, if_pos e2]; rfl
      · rw [if_neg (fun e => e2 e.symm), if_neg e2]
        by_cases e3 : x = 82
        · rw [if_pos e3.symm, if_pos e3]; rfl
        · rw [if_neg (fun e => e3 e.symm), if_neg e3]; rfl
