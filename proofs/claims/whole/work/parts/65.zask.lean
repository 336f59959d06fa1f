-- calls that only ask
section ZAK
variable {S : Nat → Nat} {B K : Nat} {st nu ce fa mo le : Nat → Int32} {ct br fc nx to re me : Int32} {v : Nat → Int32}
theorem zp_hasReed (ir : zz_Ir S) (pr : zz_Pr S st ct br) (hM : zz_Pm S v) (x y : Int32) : ∃ cc cv r e, f_X12_hasReed st x y = some (cc, cv) ∧ f_X13_hasReed v x y = some (r, e) ∧ ((cc = 0 ∧ e = 0 ∧ cv = r ∧ (r = 0 ∨ r = 1)) ∨ (cc = 1 ∧ e = 1)) := by
  rcases zz_cell x y with ⟨h1, h2⟩ | ⟨a, b, ha, hb, rfl, rfl, h1, h2, h3⟩
  · refine ⟨1, 0, 0, 1, ?_, ?_, Or.inr ⟨rfl, rfl⟩⟩
    · rw [f_X12_hasReed, zc_excell_n h1]
      rfl
    · rw [f_X13_hasReed, h2]
      rfl
  · have hc : 9 * b + a < 81 := by omega
    generalize 9 * b + a = c at *
    have hsc := ir.2.2 c hc
    have hcl : f_X12_hasReed st (nI a) (nI b) = some (if nI (S (7 + c)) = 0 then (0, 0) else (0, 1)) := by
      rw [f_X12_hasReed, zc_excell_y hc h1, zz_b, if_pos rfl, zc_stateOf pr.1 hc, zz_b]
      split <;> rfl
    have hml : f_X13_hasReed v (nI a) (nI b) = some (if nI (S (7 + c)) = 0 then (0, 0) else (1, 0)) := by
      rw [f_X13_hasReed, h2, zz_b, if_neg (by decide), h3, zz_b, zz_l7, nI_add, zz_g (by omega) (by decide), nI_clamp (by omega), hM _ (by omega)]
      split <;> rfl
    by_cases e : nI (S (7 + c)) = 0
    · rw [if_pos e] at hcl hml
      exact ⟨_, _, _, _, hcl, hml, Or.inl ⟨rfl, rfl, rfl, Or.inl rfl⟩⟩
    · rw [if_neg e] at hcl hml
      exact ⟨_, _, _, _, hcl, hml, Or.inl ⟨rfl, rfl, rfl, Or.inr rfl⟩⟩
theorem zp_isPass (ir : zz_Ir S) (pr : zz_Pr S st ct br) (hM : zz_Pm S v) (x y : Int32) : ∃ cc cv r e, f_X12_isPassable st x y = some (cc, cv) ∧ f_X13_isPassable v x y = some (r, e) ∧ ((cc = 0 ∧ e = 0 ∧ cv = r ∧ (r = 0 ∨ r = 1)) ∨ (cc = 1 ∧ e = 1)) := by
  rcases zz_cell x y with ⟨h1, h2⟩ | ⟨a, b, ha, hb, rfl, rfl, h1, h2, h3⟩
  · refine ⟨1, 0, 0, 1, ?_, ?_, Or.inr ⟨rfl, rfl⟩⟩
    · rw [f_X12_isPassable, zc_excell_n h1]
      rfl
    · rw [f_X13_isPassable, h2]
      rfl
  · have hc : 9 * b + a < 81 := by omega
    generalize 9 * b + a = c at *
    have hcl : f_X12_isPassable st (nI a) (nI b) = some (0, zz_B (zz_op S c)) := by
      rw [f_X12_isPassable, zc_excell_y hc h1, zz_b, if_pos rfl, zc_isOpen pr.1 ir.2.2 hc, zz_b, zz_d (by cases zz_op S c <;> decide)]
    have hml : f_X13_isPassable v (nI a) (nI b) = some (zz_B (zz_op S c), 0) := by
      rw [f_X13_isPassable, h2, zz_b, if_neg (by decide), h3, zz_b, zm_isFree hM ir.2.2 hc, zz_b]
      cases zz_op S c <;> rfl
    exact ⟨_, _, _, _, hcl, hml, Or.inl ⟨rfl, rfl, rfl, by cases zz_op S c <;> decide⟩⟩
/-- odd reeds -/
def zz_odp (S : Nat → Nat) (c : Nat) : Nat := if S (7 + c) = 1 ∧ S (7 + zz_i c) ≠ 1 then 1 else 0
theorem zc_odd (hs : ∀ c, c < 81 → st c = nI (S (7 + c))) (hr : ∀ c, c < 81 → S (7 + c) < 3) (hK : 100 ≤ K) : f_X9_oddByCells K st = some (nI (zz_sm (zz_odp S) 81)) := by
  have hL : f_X9_oddByCells_L4 st K (nI 0) (nI 0) = some (nI (zz_sm (zz_odp S) 81)) := by
    refine zz_for0 (fun K i (r : Int32) => f_X9_oddByCells_L4 st K r (nI i)) 81 (fun i r => r = nI (zz_sm (zz_odp S) i)) (fun z => z = some (nI (zz_sm (zz_odp S) 81))) ?_ ?_ K (nI 0) (by omega) rfl
    · intro k r h
      show f_X9_oddByCells_L4 st (k + 1) r (nI 81) = _
      rw [f_X9_oddByCells_L4, if_pos (by decide), h]
    · intro k i r hi h ih
      have h2 := zz_i_lt i hi
      show f_X9_oddByCells_L4 st (k + 1) r (nI i) = _
      rw [f_X9_oddByCells_L4, zz_l81, if_neg (nI_ge hi (by decide)), zc_standingIn hs hr hi, zz_b, zc_image i hi, zz_b, zc_standingIn hs hr h2, zz_b, h, nI_1, nI_1, zz_l0, nI_add]
      have hst : zz_sm (zz_odp S) (i + 1) = zz_sm (zz_odp S) i + zz_odp S i := rfl
      unfold zz_st
      unfold zz_odp at hst
      by_cases e : S (7 + i) = 1
      · rw [if_pos e, if_pos (show nI 1 = 1 from rfl)]
        by_cases g : S (7 + zz_i i) = 1
        · rw [if_pos g, if_neg (by decide)]
          rw [if_neg (fun q => q.2 g)] at hst
          exact ih _ (congrArg nI hst.symm)
        · rw [if_neg g, if_pos rfl]
          rw [if_pos ⟨e, g⟩] at hst
          exact ih _ (congrArg nI hst.symm)
      · rw [if_neg e, if_neg (by decide)]
        rw [if_neg (fun q => e q.1)] at hst
        exact ih _ (congrArg nI hst.symm)
  rw [f_X9_oddByCells]
  show (f_X9_oddByCells_L4 st K (nI 0) (nI 0)).bind _ = _
  rw [hL]
  rfl
theorem zm_odd (hM : zz_Pm S v) (hr : ∀ c, c < 81 → S (7 + c) < 3) (hK : 100 ≤ K) : f_X13_oddReeds K v = some (nI (zz_sm (zz_odp S) 81), 0) := by
  have hL : f_X13_oddReeds_L9 v K (nI 0) (nI 0) = some (nI (zz_sm (zz_odp S) 81)) := by
    refine zz_for0 (fun K i (r : Int32) => f_X13_oddReeds_L9 v K r (nI i)) 81 (fun i r => r = nI (zz_sm (zz_odp S) i)) (fun z => z = some (nI (zz_sm (zz_odp S) 81))) ?_ ?_ K (nI 0) (by omega) rfl
    · intro k r h
      show f_X13_oddReeds_L9 v (k + 1) r (nI 81) = _
      rw [f_X13_oddReeds_L9, if_pos (by decide), h]
    · intro k i r hi h ih
      have h2 := zz_i_lt i hi
      show f_X13_oddReeds_L9 v (k + 1) r (nI i) = _
      rw [f_X13_oddReeds_L9, zz_l81, if_neg (nI_ge hi (by decide)), zm_stands hM hr hi, zz_b, zm_image i hi, zz_b, zm_stands hM hr h2, zz_b, h, nI_1, nI_1, zz_l0, nI_add]
      have hst : zz_sm (zz_odp S) (i + 1) = zz_sm (zz_odp S) i + zz_odp S i := rfl
      unfold zz_st
      unfold zz_odp at hst
      by_cases e : S (7 + i) = 1
      · rw [if_pos e, if_pos (show nI 1 = 1 from rfl)]
        by_cases g : S (7 + zz_i i) = 1
        · rw [if_pos g, if_neg (by decide)]
          rw [if_neg (fun q => q.2 g)] at hst
          exact ih _ (congrArg nI hst.symm)
        · rw [if_neg g, if_pos rfl]
          rw [if_pos ⟨e, g⟩] at hst
          exact ih _ (congrArg nI hst.symm)
      · rw [if_neg e, if_neg (by decide)]
        rw [if_neg (fun q => e q.1)] at hst
        exact ih _ (congrArg nI hst.symm)
  rw [f_X13_oddReeds]
  show (f_X13_oddReeds_L9 v K (nI 0) (nI 0)).bind _ = _
  rw [hL]
  rfl
/-- odd reeds by rows of bits -/
def zz_rev (R : Nat) : Nat := R % 2 * 256 + R / 2 % 2 * 128 + R / 4 % 2 * 64 + R / 8 % 2 * 32 + R / 16 % 2 * 16 + R / 32 % 2 * 8 + R / 64 % 2 * 4 + R / 128 % 2 * 2 + R / 256 % 2
def zz_row (R : Nat) : Nat := zz_sm (fun x => if R / 2 ^ x % 2 = 1 ∧ R / 2 ^ (8 - x) % 2 ≠ 1 then 1 else 0) 9
theorem zz_bits : ∀ R, R < 512 → f_J6_bitCount_0f7a4 (nI R &&& (nI (zz_rev R) ^^^ (-1))) = some (nI (zz_row R)) := by decide +kernel
theorem zz_orU : ∀ i, i < 9 → ∀ a, a < 2 ^ i → ∀ t, t < 2 → nI a ||| (nI t <<< (nI i &&& 31)) = nI (a + t * 2 ^ i) := by decide +kernel
theorem zz_orD : ∀ i, i < 9 → ∀ a, a < 2 ^ i → ∀ t, t < 2 → nI (a * 2 ^ (9 - i)) ||| (nI t <<< ((8 - nI i) &&& 31)) = nI ((2 * a + t) * 2 ^ (9 - (i + 1))) := by decide +kernel
def zz_up2 (t : Nat → Nat) : Nat → Nat
  | 0 => 0
  | i + 1 => zz_up2 t i + t i * 2 ^ i
def zz_dn2 (t : Nat → Nat) : Nat → Nat
  | 0 => 0
  | i + 1 => 2 * zz_dn2 t i + t i
theorem zz_nine : ∀ R, R < 512 → zz_rev R = 2 * (2 * (2 * (2 * (2 * (2 * (2 * (2 * (2 * (0) + (R / 1 % 2)) + (R / 2 % 2)) + (R / 4 % 2)) + (R / 8 % 2)) + (R / 16 % 2)) + (R / 32 % 2)) + (R / 64 % 2)) + (R / 128 % 2)) + (R / 256 % 2) ∧ zz_row R = 0 + (if (R / 1 % 2) = 1 ∧ (R / 256 % 2) ≠ 1 then 1 else 0) + (if (R / 2 % 2) = 1 ∧ (R / 128 % 2) ≠ 1 then 1 else 0) + (if (R / 4 % 2) = 1 ∧ (R / 64 % 2) ≠ 1 then 1 else 0) + (if (R / 8 % 2) = 1 ∧ (R / 32 % 2) ≠ 1 then 1 else 0) + (if (R / 16 % 2) = 1 ∧ (R / 16 % 2) ≠ 1 then 1 else 0) + (if (R / 32 % 2) = 1 ∧ (R / 8 % 2) ≠ 1 then 1 else 0) + (if (R / 64 % 2) = 1 ∧ (R / 4 % 2) ≠ 1 then 1 else 0) + (if (R / 128 % 2) = 1 ∧ (R / 2 % 2) ≠ 1 then 1 else 0) + (if (R / 256 % 2) = 1 ∧ (R / 1 % 2) ≠ 1 then 1 else 0) := by decide +kernel
theorem zz_up2_lt {t : Nat → Nat} (h : ∀ x, t x < 2) : ∀ i, zz_up2 t i < 2 ^ i
  | 0 => Nat.zero_lt_one
  | i + 1 => by
    have ih := zz_up2_lt h i
    have := h i
    show zz_up2 t i + t i * 2 ^ i < 2 ^ (i + 1)
    rw [Nat.pow_succ]
    have h2 : t i * 2 ^ i ≤ 1 * 2 ^ i := Nat.mul_le_mul_right _ (by omega)
    omega
theorem zz_up2_b {t : Nat → Nat} (h : ∀ x, t x < 2) : ∀ {n k : Nat}, k < n → zz_up2 t n / 2 ^ k % 2 = t k
  | 0, _, hk => absurd hk (Nat.not_lt_zero _)
  | n + 1, k, hk => by
    show (zz_up2 t n + t n * 2 ^ n) / 2 ^ k % 2 = t k
    by_cases e : k = n
    · subst e
      have h1 := zz_up2_lt h k
      rw [Nat.add_mul_div_right _ _ (Nat.pow_pos (by decide)), Nat.div_eq_of_lt h1, Nat.zero_add, Nat.mod_eq_of_lt (h k)]
    · have ih := zz_up2_b h (n := n) (k := k) (by omega)
      have e2 : t n * 2 ^ n = (t n * 2 ^ (n - k - 1) * 2) * 2 ^ k := by
        rw [Nat.mul_assoc, Nat.mul_assoc, ← Nat.pow_succ', ← Nat.pow_add, show n - k - 1 + (k + 1) = n by omega]
      rw [e2, Nat.add_mul_div_right _ _ (Nat.pow_pos (by decide)), Nat.add_mul_mod_self_right, ih]
theorem zz_dn2_lt {t : Nat → Nat} (h : ∀ x, t x < 2) : ∀ i, zz_dn2 t i < 2 ^ i
  | 0 => Nat.zero_lt_one
  | i + 1 => by
    have ih := zz_dn2_lt h i
    have := h i
    show 2 * zz_dn2 t i + t i < 2 ^ (i + 1)
    rw [Nat.pow_succ]
    omega
theorem zc_oddRow (hs : ∀ c, c < 81 → st c = nI (S (7 + c))) (hr : ∀ c, c < 81 → S (7 + c) < 3) (hK : 100 ≤ K) {y : Nat} (hy : y < 9) : f_X9_oddByRows_L18 st (nI y) K (nI 0) (nI 0) (nI 0) = some (nI (zz_up2 (fun x => zz_st S (y * 9 + x)) 9), nI (zz_dn2 (fun x => zz_st S (y * 9 + x)) 9)) := by
  have ht : ∀ x, (fun x => zz_st S (y * 9 + x)) x < 2 := fun x => by
    have := zz_st_le S (y * 9 + x)
    show zz_st S (y * 9 + x) < 2
    omega
  generalize htt : (fun x => zz_st S (y * 9 + x)) = t at *
  refine zz_for0 (fun K i (r : Int32 × Int32) => f_X9_oddByRows_L18 st (nI y) K r.1 r.2 (nI i)) 9 (fun i r => r = (nI (zz_up2 t i), nI (zz_dn2 t i * 2 ^ (9 - i)))) (fun z => z = some (nI (zz_up2 t 9), nI (zz_dn2 t 9))) ?_ ?_ K (nI 0, nI 0) (by omega) (by show (nI 0, nI 0) = (nI 0, nI (0 * 2 ^ (9 - 0))); rw [Nat.zero_mul])
  · intro k r h
    show f_X9_oddByRows_L18 st (nI y) (k + 1) r.1 r.2 (nI 9) = _
    rw [f_X9_oddByRows_L18, if_pos (by decide), h]
    show some (nI (zz_up2 t 9), nI (zz_dn2 t 9 * 2 ^ (9 - 9))) = _
    rw [Nat.sub_self, Nat.pow_zero, Nat.mul_one]
  · intro k i r hi h ih
    show f_X9_oddByRows_L18 st (nI y) (k + 1) r.1 r.2 (nI i) = _
    have e1 : zz_st S (y * 9 + i) = t i := by rw [← htt]
    have h1 := zz_up2_lt ht i
    have h2 := zz_dn2_lt ht i
    rw [f_X9_oddByRows_L18, zz_l9, if_neg (nI_ge hi (by decide)), pk_mul, nI_add, zc_standingIn hs hr (by omega), zz_b, h, e1, nI_1]
    show f_X9_oddByRows_L18 st (nI y) k (nI (zz_up2 t i) ||| (nI (t i) <<< (nI i &&& 31))) (nI (zz_dn2 t i * 2 ^ (9 - i)) ||| (nI (t i) <<< ((8 - nI i) &&& 31))) (nI (i + 1)) = _
    rw [zz_orU i hi _ h1 _ (ht i), zz_orD i hi _ h2 _ (ht i)]
    exact ih (_, _) rfl
theorem zc_oddRows (hs : ∀ c, c < 81 → st c = nI (S (7 + c))) (hr : ∀ c, c < 81 → S (7 + c) < 3) (hK : 100 ≤ K) : f_X9_oddByRows K st = some (nI (zz_sm (zz_odp S) 81)) := by
  have hL : f_X9_oddByRows_L4 K st K (nI 0) (nI 0) = some (nI (zz_sm (zz_odp S) 81)) := by
    refine zz_for0 (fun K' i (r : Int32) => f_X9_oddByRows_L4 K st K' r (nI i)) 9 (fun i r => r = nI (zz_sm (zz_odp S) (i * 9))) (fun z => z = some (nI (zz_sm (zz_odp S) 81))) ?_ ?_ K (nI 0) (by omega) rfl
    · intro k r h
      show f_X9_oddByRows_L4 K st (k + 1) r (nI 9) = _
      rw [f_X9_oddByRows_L4, if_pos (by decide), h]
    · intro k y r hy h ih
      show f_X9_oddByRows_L4 K st (k + 1) r (nI y) = _
      have ht : ∀ x, (fun x => zz_st S (y * 9 + x)) x < 2 := fun x => by
        have := zz_st_le S (y * 9 + x)
        show zz_st S (y * 9 + x) < 2
        omega
      have hst : ∀ x, x < 9 → zz_odp S (y * 9 + x) = if zz_st S (y * 9 + x) = 1 ∧ zz_st S (y * 9 + (8 - x)) ≠ 1 then 1 else 0 := by
        intro x hx
        have ei : zz_i (y * 9 + x) = y * 9 + (8 - x) := by
          unfold zz_i
          omega
        unfold zz_odp zz_st
        rw [ei]
        by_cases e : S (7 + (y * 9 + x)) = 1
        · by_cases g : S (7 + (y * 9 + (8 - x))) = 1
          · rw [if_neg (fun q => q.2 g), if_pos g, if_neg (fun q => q.2 rfl)]
          · rw [if_pos ⟨e, g⟩, if_pos e, if_neg g, if_pos ⟨rfl, by decide⟩]
        · rw [if_neg (fun q => e q.1), if_neg e, if_neg (fun q => absurd q.1 (by decide))]
      rw [f_X9_oddByRows_L4, zz_l9, if_neg (nI_ge hy (by decide))]
      show ((f_X9_oddByRows_L18 st (nI y) K (nI 0) (nI 0) (nI 0)).bind _) = _
      rw [zc_oddRow hs hr hK hy, zz_b, h, nI_1]
      have hR := zz_up2_lt ht 9
      obtain ⟨n1, n2⟩ := zz_nine _ hR
      have b0 : zz_up2 (fun x => zz_st S (y * 9 + x)) 9 / 1 % 2 = zz_st S (y * 9 + 0) := zz_up2_b ht (n := 9) (k := 0) (by decide)
      have b1 : zz_up2 (fun x => zz_st S (y * 9 + x)) 9 / 2 % 2 = zz_st S (y * 9 + 1) := zz_up2_b ht (n := 9) (k := 1) (by decide)
      have b2 : zz_up2 (fun x => zz_st S (y * 9 + x)) 9 / 4 % 2 = zz_st S (y * 9 + 2) := zz_up2_b ht (n := 9) (k := 2) (by decide)
      have b3 : zz_up2 (fun x => zz_st S (y * 9 + x)) 9 / 8 % 2 = zz_st S (y * 9 + 3) := zz_up2_b ht (n := 9) (k := 3) (by decide)
      have b4 : zz_up2 (fun x => zz_st S (y * 9 + x)) 9 / 16 % 2 = zz_st S (y * 9 + 4) := zz_up2_b ht (n := 9) (k := 4) (by decide)
      have b5 : zz_up2 (fun x => zz_st S (y * 9 + x)) 9 / 32 % 2 = zz_st S (y * 9 + 5) := zz_up2_b ht (n := 9) (k := 5) (by decide)
      have b6 : zz_up2 (fun x => zz_st S (y * 9 + x)) 9 / 64 % 2 = zz_st S (y * 9 + 6) := zz_up2_b ht (n := 9) (k := 6) (by decide)
      have b7 : zz_up2 (fun x => zz_st S (y * 9 + x)) 9 / 128 % 2 = zz_st S (y * 9 + 7) := zz_up2_b ht (n := 9) (k := 7) (by decide)
      have b8 : zz_up2 (fun x => zz_st S (y * 9 + x)) 9 / 256 % 2 = zz_st S (y * 9 + 8) := zz_up2_b ht (n := 9) (k := 8) (by decide)
      rw [b0, b1, b2, b3, b4, b5, b6, b7, b8] at n1 n2
      have n1 : zz_rev (zz_up2 (fun x => zz_st S (y * 9 + x)) 9) = zz_dn2 (fun x => zz_st S (y * 9 + x)) 9 := n1
      have n2 : zz_row (zz_up2 (fun x => zz_st S (y * 9 + x)) 9) = 0 + (if zz_st S (y * 9 + 0) = 1 ∧ zz_st S (y * 9 + (8 - 0)) ≠ 1 then 1 else 0) + (if zz_st S (y * 9 + 1) = 1 ∧ zz_st S (y * 9 + (8 - 1)) ≠ 1 then 1 else 0) + (if zz_st S (y * 9 + 2) = 1 ∧ zz_st S (y * 9 + (8 - 2)) ≠ 1 then 1 else 0) + (if zz_st S (y * 9 + 3) = 1 ∧ zz_st S (y * 9 + (8 - 3)) ≠ 1 then 1 else 0) + (if zz_st S (y * 9 + 4) = 1 ∧ zz_st S (y * 9 + (8 - 4)) ≠ 1 then 1 else 0) + (if zz_st S (y * 9 + 5) = 1 ∧ zz_st S (y * 9 + (8 - 5)) ≠ 1 then 1 else 0) + (if zz_st S (y * 9 + 6) = 1 ∧ zz_st S (y * 9 + (8 - 6)) ≠ 1 then 1 else 0) + (if zz_st S (y * 9 + 7) = 1 ∧ zz_st S (y * 9 + (8 - 7)) ≠ 1 then 1 else 0) + (if zz_st S (y * 9 + 8) = 1 ∧ zz_st S (y * 9 + (8 - 8)) ≠ 1 then 1 else 0) := n2
      have hsum : zz_sm (zz_odp S) ((y + 1) * 9) = zz_sm (zz_odp S) (y * 9) + zz_odp S (y * 9 + 0) + zz_odp S (y * 9 + 1) + zz_odp S (y * 9 + 2) + zz_odp S (y * 9 + 3) + zz_odp S (y * 9 + 4) + zz_odp S (y * 9 + 5) + zz_odp S (y * 9 + 6) + zz_odp S (y * 9 + 7) + zz_odp S (y * 9 + 8) := by
        rw [Nat.succ_mul]
        rfl
      rw [hst 0 (by decide), hst 1 (by decide), hst 2 (by decide), hst 3 (by decide), hst 4 (by decide), hst 5 (by decide), hst 6 (by decide), hst 7 (by decide), hst 8 (by decide)] at hsum
      show ((f_J6_bitCount_0f7a4 (nI (zz_up2 (fun x => zz_st S (y * 9 + x)) 9) &&& (nI (zz_dn2 (fun x => zz_st S (y * 9 + x)) 9) ^^^ (-1)))).bind _) = _
      rw [← n1, zz_bits _ hR, zz_b, nI_add]
      refine ih _ (congrArg nI ?_)
      rw [hsum, n2]
      simp only [Nat.zero_add, Nat.add_assoc]
  rw [f_X9_oddByRows]
  show (f_X9_oddByRows_L4 K st K (nI 0) (nI 0)).bind _ = _
  rw [hL]
  rfl
end ZAK
