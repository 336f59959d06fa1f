/-- the state in natural numbers: a row S as the model lays it -/
def zz_c (S : Nat → Nat) (b : Nat) : Nat := 9 * S (90 + 4 * b) + S (89 + 4 * b)
def zz_op (S : Nat → Nat) (c : Nat) : Bool := decide (S (7 + c) ≠ 1 ∧ S (7 + zz_i c) ≠ 1)
def zz_st (S : Nat → Nat) (c : Nat) : Nat := if S (7 + c) = 1 then 1 else 0
def zz_tkp (S : Nat → Nat) (e c : Nat) (b : Nat) : Bool := decide (b ≠ e ∧ (zz_c S b = c ∨ zz_i (zz_c S b) = c))
def zz_tk (S : Nat → Nat) (e c : Nat) : Bool := zz_an (zz_tkp S e c) (S 3)
def zz_fdp (S : Nat → Nat) (x : Int32) (b : Nat) : Bool := decide (nI (S (88 + 4 * b)) = x)
def zz_fd (S : Nat → Nat) (x : Int32) : Option Nat := zz_fi (zz_fdp S x) (S 3)
def zz_pnp (S : Nat → Nat) (c : Nat) (b : Nat) : Bool := decide (zz_c S b = c)
def zz_pn (S : Nat → Nat) (c : Nat) : Option Nat := zz_fi (zz_pnp S c) (S 3)
def zz_Pm (S : Nat → Nat) (v : Nat → Int32) : Prop := ∀ k, k < 238 → v k = nI (S k)
section ZC
variable {S : Nat → Nat} {st nu ce fa : Nat → Int32} {K : Nat}
theorem zc_stateOf (hs : ∀ c, c < 81 → st c = nI (S (7 + c))) {c : Nat} (hc : c < 81) : f_X9_stateOf st (nI c) = some (nI (S (7 + c))) := by
  rw [f_X9_stateOf, zz_g hc (by decide), nI_clamp (by omega), hs c hc]
theorem zc_standingIn (hs : ∀ c, c < 81 → st c = nI (S (7 + c))) (hr : ∀ c, c < 81 → S (7 + c) < 3) {c : Nat} (hc : c < 81) : f_X9_standingIn st (nI c) = some (nI (zz_st S c)) := by
  rw [f_X9_standingIn, zz_g hc (by decide), nI_clamp (by omega), hs c hc, zz_l1, zz_l0]
  have := hr c hc
  unfold zz_st
  by_cases h : S (7 + c) = 1
  · rw [if_pos h, h, if_pos rfl]
  · rw [if_neg h, if_neg (zz_ne h (by omega) (by decide))]
theorem zc_isOpen (hs : ∀ c, c < 81 → st c = nI (S (7 + c))) (hr : ∀ c, c < 81 → S (7 + c) < 3) {c : Nat} (hc : c < 81) : f_X9_isOpen st (nI c) = some (zz_B (zz_op S c)) := by
  have h1 := hr c hc
  have h2 := zz_i_lt c hc
  have h3 := hr _ h2
  rw [f_X9_isOpen, zz_g hc (by decide), nI_clamp (by omega), hs c hc, zc_image c hc, zz_b, zz_g h2 (by decide), nI_clamp (by omega), hs _ h2, zz_l1, zz_l0]
  unfold zz_op
  by_cases h : S (7 + c) = 1
  · rw [h, if_pos rfl, decide_eq_false (fun e => e.1 rfl)]
    rfl
  · rw [if_neg (zz_ne h (by omega) (by decide))]
    by_cases g : S (7 + zz_i c) = 1
    · rw [g, if_pos rfl, decide_eq_false (fun e => e.2 rfl)]
      rfl
    · rw [if_neg (zz_ne g (by omega) (by decide)), decide_eq_true ⟨h, g⟩]
      rfl
theorem zc_standingInPair (hs : ∀ c, c < 81 → st c = nI (S (7 + c))) (hr : ∀ c, c < 81 → S (7 + c) < 3) {c : Nat} (hc : c < 81) : f_X9_standingInPair st (nI c) = some (nI (if zz_i c = c then zz_st S c else zz_st S c + zz_st S (zz_i c))) := by
  have h2 := zz_i_lt c hc
  rw [f_X9_standingInPair, zc_image c hc, zz_b, zc_standingIn hs hr hc, zc_standingIn hs hr h2]
  by_cases h : zz_i c = c
  · rw [h, if_pos rfl, if_pos rfl, zz_b]
  · rw [if_neg (zz_ne h (by omega) (by omega)), if_neg h, zz_b, zz_b, nI_add]
theorem zc_placeOf (hn : ∀ b, b < S 3 → nu b = nI (S (88 + 4 * b))) (h4 : S 3 ≤ 4) (hK : 10 ≤ K) (x : Int32) : f_X3_placeOf K nu (nI (S 3)) x = some (zz_o (zz_fd S x)) := by
  refine zz_for0 (fun K i (_ : Unit) => f_X3_placeOf_L2 nu (nI (S 3)) x K (nI i)) (S 3) (fun i _ => zz_fi (zz_fdp S x) i = none) (fun o => o = some (zz_o (zz_fd S x))) ?_ ?_ K () (by omega) rfl
  · intro k _ h
    show f_X3_placeOf_L2 nu (nI (S 3)) x (k + 1) (nI (S 3)) = _
    rw [f_X3_placeOf_L2, if_pos (nI_le (Nat.le_refl _) (by omega)), zz_fd, h]
    rfl
  · intro k i _ hi h ih
    show f_X3_placeOf_L2 nu (nI (S 3)) x (k + 1) (nI i) = _
    rw [f_X3_placeOf_L2, if_neg (nI_ge hi (by omega)), zz_g (by omega) (by decide), nI_clamp (by omega), hn i hi]
    by_cases hp : nI (S (88 + 4 * i)) = x
    · rw [if_pos hp, zz_fd, zz_fi_y h (decide_eq_true hp) hi]
      rfl
    · rw [if_neg hp, nI_1]
      exact ih () (zz_fi_n h (decide_eq_false hp))
theorem zc_placeIn (hx : ∀ b, b < S 3 → zz_c S b < 81) (hn : ∀ b, b < S 3 → ce b = nI (zz_c S b)) (h4 : S 3 ≤ 4) (hK : 10 ≤ K) {c : Nat} (hc : c < 81) : f_X3_placeIn K ce (nI (S 3)) (nI c) = some (zz_o (zz_pn S c)) := by
  refine zz_for0 (fun K i (_ : Unit) => f_X3_placeIn_L2 ce (nI (S 3)) (nI c) K (nI i)) (S 3) (fun i _ => zz_fi (zz_pnp S c) i = none) (fun o => o = some (zz_o (zz_pn S c))) ?_ ?_ K () (by omega) rfl
  · intro k _ h
    show f_X3_placeIn_L2 ce (nI (S 3)) (nI c) (k + 1) (nI (S 3)) = _
    rw [f_X3_placeIn_L2, if_pos (nI_le (Nat.le_refl _) (by omega)), zz_pn, h]
    rfl
  · intro k i _ hi h ih
    have := hx i hi
    show f_X3_placeIn_L2 ce (nI (S 3)) (nI c) (k + 1) (nI i) = _
    rw [f_X3_placeIn_L2, if_neg (nI_ge hi (by omega)), zz_g (by omega) (by decide), nI_clamp (by omega), hn i hi]
    by_cases hp : zz_c S i = c
    · rw [if_pos (by rw [hp]), zz_pn, zz_fi_y h (decide_eq_true hp) hi]
      rfl
    · rw [if_neg (zz_ne hp (by omega) (by omega)), nI_1]
      exact ih () (zz_fi_n h (decide_eq_false hp))
theorem zc_occupies (hx : ∀ b, b < S 3 → zz_c S b < 81) (hn : ∀ b, b < S 3 → ce b = nI (zz_c S b)) (h4 : S 3 ≤ 4) (hK : 10 ≤ K) {c : Nat} (hc : c < 81) {y : Int32} {e : Nat} (he : ∀ b, b < 4 → (nI b = y ↔ b = e)) : f_X3_occupies K ce (nI (S 3)) (nI c) y = some (zz_B (zz_tk S e c)) := by
  refine zz_for0 (fun K i (_ : Unit) => f_X3_occupies_L2 ce (nI (S 3)) (nI c) y K (nI i)) (S 3) (fun i _ => zz_an (zz_tkp S e c) i = false) (fun o => o = some (zz_B (zz_tk S e c))) ?_ ?_ K () (by omega) rfl
  · intro k _ h
    show f_X3_occupies_L2 ce (nI (S 3)) (nI c) y (k + 1) (nI (S 3)) = _
    rw [f_X3_occupies_L2, if_pos (nI_le (Nat.le_refl _) (by omega)), zz_tk, h]
    rfl
  · intro k i _ hi h ih
    have h81 := hx i hi
    have h82 := zz_i_lt _ h81
    show f_X3_occupies_L2 ce (nI (S 3)) (nI c) y (k + 1) (nI i) = _
    rw [f_X3_occupies_L2, if_neg (nI_ge hi (by omega)), zz_g (by omega) (by decide), nI_clamp (by omega), hn i hi, zz_g (by omega) (by decide), zc_image _ h81, zz_b]
    by_cases hy : i = e
    · have hp : zz_tkp S e c i = false := decide_eq_false (fun q => q.1 hy)
      rw [if_pos ((he i (by omega)).mpr hy), nI_1]
      have := ih () (zz_an_n h hp)
      split
      · exact this
      · split
        · exact this
        · exact this
    · rw [if_neg (fun q => hy ((he i (by omega)).mp q)), nI_1]
      by_cases g : zz_c S i = c
      · rw [if_pos (by rw [g]), zz_tk, zz_an_y (n := i) (decide_eq_true ⟨hy, Or.inl g⟩) hi]
        rfl
      · rw [if_neg (zz_ne g (by omega) (by omega))]
        by_cases g2 : zz_i (zz_c S i) = c
        · rw [if_pos (by rw [g2]), zz_tk, zz_an_y (n := i) (decide_eq_true ⟨hy, Or.inr g2⟩) hi]
          rfl
        · rw [if_neg (zz_ne g2 (by omega) (by omega))]
          exact ih () (zz_an_n h (decide_eq_false (fun q => q.2.elim g g2)))
end ZC
section ZM
variable {S : Nat → Nat} {v : Nat → Int32} {K : Nat}
theorem zm_stands (hM : zz_Pm S v) (hr : ∀ c, c < 81 → S (7 + c) < 3) {c : Nat} (hc : c < 81) : f_X13_stands v (nI c) = some (nI (zz_st S c)) := by
  rw [f_X13_stands, zz_l7, nI_add, zz_g (by omega) (by decide), nI_clamp (by omega), hM _ (by omega), zz_l1, zz_l0]
  have := hr c hc
  unfold zz_st
  by_cases h : S (7 + c) = 1
  · rw [if_pos h, h, if_pos rfl]
  · rw [if_neg h, if_neg (zz_ne h (by omega) (by decide))]
theorem zm_isFree (hM : zz_Pm S v) (hr : ∀ c, c < 81 → S (7 + c) < 3) {c : Nat} (hc : c < 81) : f_X13_isFree v (nI c) = some (zz_B (zz_op S c)) := by
  have h2 := zz_i_lt c hc
  rw [f_X13_isFree, zm_stands hM hr hc, zz_b, zm_image c hc, zz_b, zm_stands hM hr h2, zz_b, nI_add]
  unfold zz_op zz_st
  by_cases h : S (7 + c) = 1
  · rw [if_pos h, decide_eq_false (fun e => e.1 h), if_neg (nI_ne0 (by omega) (by split <;> decide))]
    rfl
  · rw [if_neg h]
    by_cases g : S (7 + zz_i c) = 1
    · rw [if_pos g, decide_eq_false (fun e => e.2 g), if_neg (nI_ne0 (by decide) (by decide))]
      rfl
    · rw [if_neg g, decide_eq_true ⟨h, g⟩, if_pos (by decide)]
      rfl
theorem zm_of (b k : Nat) : f_X13_of (nI b) (nI k) = some (nI (88 + k + 4 * b)) := by
  rw [f_X13_of, zz_l4, zz_l88, pk_mul, nI_add, nI_add, show 88 + 4 * b + k = 88 + k + 4 * b by omega]
theorem zm_where (hM : zz_Pm S v) {b : Nat} (hb : b < 4) : f_X13_where v (nI b) = some (nI (zz_c S b)) := by
  rw [f_X13_where, zz_l1, zz_l2, zm_of, zz_b, zz_g (by omega) (by decide), zm_of, zz_b, zz_g (by omega) (by decide), nI_clamp (by omega), nI_clamp (by omega), hM _ (by omega), hM _ (by omega), f_X13_cell, zz_b, zz_l9, pk_mul, nI_add]
  rfl
theorem zm_find (hM : zz_Pm S v) (h4 : S 3 ≤ 4) (hK : 10 ≤ K) (x : Int32) : f_X13_find K v x = some (zz_o (zz_fd S x)) := by
  have h3 : v 3 = nI (S 3) := hM 3 (by decide)
  refine zz_for0 (fun K i (_ : Unit) => f_X13_find_L2 v x K (nI i)) (S 3) (fun i _ => zz_fi (zz_fdp S x) i = none) (fun o => o = some (zz_o (zz_fd S x))) ?_ ?_ K () (by omega) rfl
  · intro k _ h
    show f_X13_find_L2 v x (k + 1) (nI (S 3)) = _
    rw [f_X13_find_L2, h3, if_pos (nI_le (Nat.le_refl _) (by omega)), zz_fd, h]
    rfl
  · intro k i _ hi h ih
    show f_X13_find_L2 v x (k + 1) (nI i) = _
    rw [f_X13_find_L2, h3, if_neg (nI_ge hi (by omega)), zz_l0, zm_of, zz_b, zz_g (by omega) (by decide), nI_clamp (by omega), hM _ (by omega)]
    by_cases hp : nI (S (88 + 4 * i)) = x
    · rw [if_pos hp, zz_fd, zz_fi_y h (decide_eq_true hp) hi]
      rfl
    · rw [if_neg hp, nI_1]
      exact ih () (zz_fi_n h (decide_eq_false hp))
theorem zm_isTaken (hM : zz_Pm S v) (hx : ∀ b, b < S 3 → zz_c S b < 81) (h4 : S 3 ≤ 4) (hK : 10 ≤ K) {c : Nat} (hc : c < 81) {y : Int32} {e : Nat} (he : ∀ b, b < 4 → (nI b = y ↔ b = e)) : f_X13_isTaken K v (nI c) y = some (zz_B (zz_tk S e c)) := by
  have h3 : v 3 = nI (S 3) := hM 3 (by decide)
  refine zz_for0 (fun K i (_ : Unit) => f_X13_isTaken_L2 v (nI c) y K (nI i)) (S 3) (fun i _ => zz_an (zz_tkp S e c) i = false) (fun o => o = some (zz_B (zz_tk S e c))) ?_ ?_ K () (by omega) rfl
  · intro k _ h
    show f_X13_isTaken_L2 v (nI c) y (k + 1) (nI (S 3)) = _
    rw [f_X13_isTaken_L2, h3, if_pos (nI_le (Nat.le_refl _) (by omega)), zz_tk, h]
    rfl
  · intro k i _ hi h ih
    have h81 := hx i hi
    have h82 := zz_i_lt _ h81
    show f_X13_isTaken_L2 v (nI c) y (k + 1) (nI i) = _
    rw [f_X13_isTaken_L2, h3, if_neg (nI_ge hi (by omega)), zm_where hM (by omega), zz_b, zz_b, zm_image _ h81, zz_b, nI_1]
    by_cases hy : i = e
    · rw [if_pos ((he i (by omega)).mpr hy)]
      exact ih () (zz_an_n h (decide_eq_false (fun q => q.1 hy)))
    · rw [if_neg (fun q => hy ((he i (by omega)).mp q))]
      by_cases g : zz_c S i = c
      · rw [if_pos (by rw [g]), zz_tk, zz_an_y (n := i) (decide_eq_true ⟨hy, Or.inl g⟩) hi]
        rfl
      · rw [if_neg (zz_ne g (by omega) (by omega))]
        by_cases g2 : zz_i (zz_c S i) = c
        · rw [if_pos (by rw [g2]), zz_tk, zz_an_y (n := i) (decide_eq_true ⟨hy, Or.inr g2⟩) hi]
          rfl
        · rw [if_neg (zz_ne g2 (by omega) (by omega))]
          exact ih () (zz_an_n h (decide_eq_false (fun q => q.2.elim g g2)))
theorem zz_e99 : ∀ b, b < 4 → (nI b = (-1) ↔ b = 99) := by decide +kernel
theorem zz_eb {y : Nat} (hy : y < 4) : ∀ b, b < 4 → (nI b = nI y ↔ b = y) := fun b hb => nI_eq (by omega) (by omega)
end ZM
