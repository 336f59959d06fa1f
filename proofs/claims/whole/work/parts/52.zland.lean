-- landings on both sides
section ZL
variable {S T : Nat → Nat} {K : Nat} {lc : Nat → Int32} {ln : Int32} {v : Nat → Int32}
def zz_lfp (S : Nat → Nat) (c l : Nat) : Bool := decide (S (230 + l) = c)
theorem zc_isIn {n c : Nat} (hn : n ≤ 8) (hK : 100 ≤ K) (hl : ∀ l, l < n → lc l = nI (S (230 + l))) (h81 : ∀ l, l < n → S (230 + l) < 81) (hc : c < 81) : f_X5_isIn K lc (nI n) (nI c) = some (zz_B (zz_an (zz_lfp S c) n)) := by
  refine zz_for0 (fun K i (_ : Unit) => f_X5_isIn_L2 lc (nI n) (nI c) K (nI i)) n (fun i _ => zz_an (zz_lfp S c) i = false) (fun o => o = some (zz_B (zz_an (zz_lfp S c) n))) ?_ ?_ K () (by omega) rfl
  · intro k _ h
    show f_X5_isIn_L2 lc (nI n) (nI c) (k + 1) (nI n) = _
    rw [f_X5_isIn_L2, if_pos (nI_le (Nat.le_refl _) (by omega)), h]
    rfl
  · intro k i _ hi h ih
    have := h81 i hi
    show f_X5_isIn_L2 lc (nI n) (nI c) (k + 1) (nI i) = _
    rw [f_X5_isIn_L2, if_neg (nI_ge hi (by omega)), zz_g (by omega) (by decide), nI_clamp (by omega), hl i hi]
    by_cases e : S (230 + i) = c
    · rw [if_pos (by rw [e]), zz_an_y (n := i) (decide_eq_true e) hi]
      rfl
    · rw [if_neg (zz_ne e (by omega) (by omega)), nI_1]
      exact ih () (zz_an_n h (decide_eq_false e))
theorem zp_land (hK : 2000 ≤ K) (il : zz_Il S) (pl : zz_Pl S lc ln) (hM : zz_Pm S v) (x y : Int32) :
    (∃ c e r, f_X5_build K lc ln x y = some (c, lc, ln) ∧ f_X13_lands K 0 v x y = some (r, e, v) ∧ ((c = -1 ∧ e = 1) ∨ (c = -3 ∧ e = 2))) ∨
    (∃ a T lc' ln' v', a < 2 ^ 31 ∧ f_X5_build K lc ln x y = some (nI a, lc', ln') ∧ f_X13_lands K 0 v x y = some (nI a, 0, v') ∧ zz_Il T ∧ (zz_Er S T ∧ zz_Eb S T ∧ zz_Ep S T ∧ zz_Ef S T) ∧ zz_Pl T lc' ln' ∧ zz_Pm T v') := by
  obtain ⟨rfl, p2⟩ := pl
  obtain ⟨i1, i2⟩ := il
  have hv4 : v 4 = nI (S 4) := hM 4 (by decide)
  rcases zz_cell x y with ⟨h1, h2⟩ | ⟨a, b, ha, hb, rfl, rfl, h1, h2, h3⟩
  · refine Or.inl ⟨-1, 1, 0, ?_, ?_, Or.inl ⟨rfl, rfl⟩⟩
    · rw [f_X5_build, h1]; rfl
    · rw [f_X13_lands, h2]; rfl
  · have hc : 9 * b + a < 81 := by omega
    generalize 9 * b + a = c at *
    generalize hn : S 4 = n at *
    have hfail : ∀ k i, i < n → zz_lfp S c i = true → f_X13_lands_L24 0 v (nI a) (nI b) (nI n) (k + 1) (nI i) = some (0, 2, v) := by
      intro k i hi hp
      rw [f_X13_lands_L24, if_neg (nI_ge hi (by omega)), zz_l230, nI_add, zz_g (by omega) (by decide), h3, zz_b, nI_clamp (by omega), hM _ (by omega), if_pos (by rw [of_decide_eq_true hp])]
      rfl
    have hnext : ∀ k i, i < n → zz_lfp S c i = false → f_X13_lands_L24 0 v (nI a) (nI b) (nI n) (k + 1) (nI i) = f_X13_lands_L24 0 v (nI a) (nI b) (nI n) k (nI (i + 1)) := by
      intro k i hi hp
      have := i2 i hi
      rw [f_X13_lands_L24, if_neg (nI_ge hi (by omega)), zz_l230, nI_add, zz_g (by omega) (by decide), h3, zz_b, nI_clamp (by omega), hM _ (by omega), if_neg (zz_ne (of_decide_eq_false hp) (by omega) (by omega)), nI_1]
    have hml : f_X13_lands K 0 v (nI a) (nI b) = f_X13_lands_L24 0 v (nI a) (nI b) (nI n) K (nI 0) := by
      rw [f_X13_lands, h2, zz_b, if_neg (by decide), hv4]
      rfl
    cases ht : zz_an (zz_lfp S c) n with
    | true =>
      refine Or.inl ⟨-3, 2, 0, ?_, ?_, Or.inr ⟨rfl, rfl⟩⟩
      · rw [f_X5_build, h1, zz_b, if_neg (zz_n1 (by omega)), zc_isIn i1 (by omega) p2 i2 hc, zz_b, ht, zz_Bt, if_neg (show ¬ ((1 : Int32) = 0) by decide), ite_self]
      · rw [hml]
        have hP : ∃ i, zz_fi (zz_lfp S c) n = some i := by
          cases e : zz_fi (zz_lfp S c) n with
          | some i => exact ⟨i, rfl⟩
          | none =>
            obtain ⟨j, hj, hj2⟩ := zz_an_t.mp ht
            rw [zz_fi_none e j hj] at hj2
            cases hj2
        obtain ⟨m, hm⟩ := hP
        obtain ⟨hm1, hm2, hm3⟩ := zz_fi_some hm
        refine zz_for0 (fun K i (_ : Unit) => f_X13_lands_L24 0 v (nI a) (nI b) (nI n) K (nI i)) m (fun _ _ => True) (fun o => o = some (0, 2, v)) ?_ ?_ K () (by omega) trivial
        · intro k _ _
          exact hfail k m hm1 hm2
        · intro k i _ hi _ ih
          show f_X13_lands_L24 0 v (nI a) (nI b) (nI n) (k + 1) (nI i) = _
          rw [hnext k i (by omega) (hm3 i hi)]
          exact ih () trivial
    | false =>
      have hrun : ∀ o, (∀ k, f_X13_lands_L24 0 v (nI a) (nI b) (nI n) (k + 1) (nI n) = o) → f_X13_lands K 0 v (nI a) (nI b) = o := by
        intro o ho
        rw [hml]
        refine zz_for0 (fun K i (_ : Unit) => f_X13_lands_L24 0 v (nI a) (nI b) (nI n) K (nI i)) n (fun _ _ => True) (fun o' => o' = o) ?_ ?_ K () (by omega) trivial
        · intro k _ _
          exact ho k
        · intro k i _ hi _ ih
          show f_X13_lands_L24 0 v (nI a) (nI b) (nI n) (k + 1) (nI i) = _
          rw [hnext k i hi (zz_an_f.mp ht i hi)]
          exact ih () trivial
      by_cases h8 : n = 8
      · refine Or.inl ⟨-3, 2, 0, ?_, hrun _ (fun k => ?_), Or.inr ⟨rfl, rfl⟩⟩
        · rw [f_X5_build, h1, zz_b, if_neg (zz_n1 (by omega)), h8, if_pos (by decide)]
        · rw [f_X13_lands_L24, if_pos (nI_le (Nat.le_refl _) (by omega)), h8, if_pos (by decide)]
          rfl
      · have hT : ∀ k, k ≠ 4 → k ≠ 230 + n → zz_u (zz_u S (230 + n) c) 4 (n + 1) k = S k := fun k h1 h2 => by rw [zz_un _ _ h1, zz_un _ _ h2]
        have hT4 : zz_u (zz_u S (230 + n) c) 4 (n + 1) 4 = n + 1 := zz_us _ _ _
        have hTc : zz_u (zz_u S (230 + n) c) 4 (n + 1) (230 + n) = c := by rw [zz_un _ _ (by omega), zz_us]
        have hPm : zz_Pm (zz_u (zz_u S (230 + n) c) 4 (n + 1)) (upd (upd v (230 + n) (nI c)) 4 (nI (n + 1))) := zz_Pm_u (zz_Pm_u hM _ _) _ _
        generalize zz_u (zz_u S (230 + n) c) 4 (n + 1) = T at *
        refine Or.inr ⟨n, T, upd lc n (nI c), nI (n + 1), _, by omega, ?_, hrun _ (fun k => ?_), ⟨by omega, fun l hl => ?_⟩, zz_Ex_l (fun k h1 h2 => hT k h1 (by omega)), ⟨by rw [hT4], fun l hl => ?_⟩, hPm⟩
        · rw [f_X5_build, h1, zz_b, if_neg (zz_n1 (by omega)), zz_l8, if_neg (nI_ge (by omega) (by decide)), zc_isIn i1 (by omega) p2 i2 hc, zz_b, ht, zz_Bf, if_pos (by first | rfl | decide), zz_g (by omega) (by decide), nI_clamp (by omega), nI_1, nI_pred]
        · rw [f_X13_lands_L24, if_pos (nI_le (Nat.le_refl _) (by omega)), zz_l8, if_neg (zz_ne h8 (by omega) (by decide)), h3, zz_b, zz_l230, nI_add, zz_g (by omega) (by decide), nI_clamp (by omega), pk_un (by omega), hv4, nI_1]
        · rw [hT4] at hl
          by_cases e : l = n
          · rw [e, hTc]; exact hc
          · rw [hT _ (by omega) (by omega)]; exact i2 l (by omega)
        · rw [hT4] at hl
          rw [zz_upd]
          by_cases e : l = n
          · rw [if_pos e, e, hTc]
          · rw [if_neg e, hT _ (by omega) (by omega)]; exact p2 l (by omega)
theorem zc_tearL {n p : Nat} (hn : n ≤ 8) (hK : 100 ≤ K) (hp : p < n) (lc : Nat → Int32) : ∃ lc', f_X5_tearDown_L18 (nI n) K (nI (p + 1)) lc = some lc' ∧ ∀ j, j < n - 1 → lc' j = if p ≤ j then lc (j + 1) else lc j := by
  refine zz_for (fun K i (s : Nat → Int32) => f_X5_tearDown_L18 (nI n) K (nI i) s) n (fun i s => p + 1 ≤ i ∧ ∀ j, s j = if p ≤ j ∧ j + 1 < i then lc (j + 1) else lc j) (fun o => ∃ lc', o = some lc' ∧ ∀ j, j < n - 1 → lc' j = if p ≤ j then lc (j + 1) else lc j) ?_ ?_ (n - (p + 1)) (p + 1) K lc (by omega) (by omega) ⟨Nat.le_refl _, fun j => by rw [if_neg (by omega)]⟩
  · intro k s hs
    refine ⟨s, ?_, fun j hj => ?_⟩
    · show f_X5_tearDown_L18 (nI n) (k + 1) (nI n) s = _
      rw [f_X5_tearDown_L18, if_pos (nI_le (Nat.le_refl _) (by omega))]
    · rw [hs.2 j]
      by_cases e : p ≤ j
      · rw [if_pos ⟨e, by omega⟩, if_pos e]
      · rw [if_neg (fun g => e g.1), if_neg e]
  · intro k i s hi hs ih
    show ∃ lc', f_X5_tearDown_L18 (nI n) (k + 1) (nI i) s = some lc' ∧ _
    rw [f_X5_tearDown_L18, if_neg (nI_ge hi (by omega)), zz_g (by omega) (by decide), zz_l1, pk_sub (by omega), zz_g (by omega) (by decide), nI_clamp (by omega), nI_clamp (by omega), nI_add]
    refine ih _ ⟨by omega, fun j => ?_⟩
    rw [zz_upd, hs.2 j, hs.2 i, if_neg (show ¬ (p ≤ i ∧ i + 1 < i) by omega)]
    by_cases e : j = i - 1
    · rw [if_pos e, if_pos (by omega), show j + 1 = i by omega]
    · rw [if_neg e]
      by_cases g : p ≤ j ∧ j + 1 < i
      · rw [if_pos g, if_pos (by omega)]
      · rw [if_neg g, if_neg (by omega)]
def zz_lT (S : Nat → Nat) (l : Nat) : Nat → Nat := fun j => if j = 230 + (S 4 - 1) then 0 else if j = 4 then S 4 - 1 else if 230 + l ≤ j ∧ j < 230 + (S 4 - 1) then S (j + 1) else S j
theorem zp_tear (hK : 2000 ≤ K) (il : zz_Il S) (pl : zz_Pl S lc ln) (hM : zz_Pm S v) (x : Int32) :
    (∃ c e r, f_X5_tearDown K lc ln x = some (c, lc, ln) ∧ f_X13_drops K 0 v x = some (r, e, v) ∧ (c = -1 ∧ e = 1)) ∨
    (∃ a T lc' ln' v', a < 2 ^ 31 ∧ f_X5_tearDown K lc ln x = some (nI a, lc', ln') ∧ f_X13_drops K 0 v x = some (nI a, 0, v') ∧ zz_Il T ∧ (zz_Er S T ∧ zz_Eb S T ∧ zz_Ep S T ∧ zz_Ef S T) ∧ zz_Pl T lc' ln' ∧ zz_Pm T v') := by
  obtain ⟨rfl, p2⟩ := pl
  obtain ⟨i1, i2⟩ := il
  have hv4 : v 4 = nI (S 4) := hM 4 (by decide)
  rcases zm_isIn x (n := S 4) (by omega) with ⟨h, h2⟩ | ⟨l, hl, rfl, h⟩
  · refine Or.inl ⟨-1, 1, 0, ?_, ?_, rfl, rfl⟩
    · rw [f_X5_tearDown]
      rcases h2 with h2 | h2
      · rw [if_pos h2.1]
      · rw [if_neg h2.1, if_neg h2.2.2.2]
    · rw [f_X13_drops, f_X13_isLanding, hv4, h]
      rfl
  · obtain ⟨lc', hc, hc2⟩ := zc_tearL (K := K) i1 (by omega) hl lc
    have hL : ∃ w, f_X13_drops_L26 K (nI l) (upd v 4 (nI (S 4 - 1))) = some w ∧ ∀ j, w j = if 230 + l ≤ j ∧ j < 230 + (S 4 - 1) then (upd v 4 (nI (S 4 - 1))) (j + 1) else (upd v 4 (nI (S 4 - 1))) j := by
      generalize hu : upd v 4 (nI (S 4 - 1)) = u
      have hu4 : u 4 = nI (S 4 - 1) := by rw [← hu, pk_us]
      refine zz_for (fun K i (s : Nat → Int32) => f_X13_drops_L26 K (nI i) s) (S 4 - 1) (fun i s => l ≤ i ∧ ∀ j, s j = if 230 + l ≤ j ∧ j < 230 + i then u (j + 1) else u j) (fun o => ∃ w, o = some w ∧ ∀ j, w j = if 230 + l ≤ j ∧ j < 230 + (S 4 - 1) then u (j + 1) else u j) ?_ ?_ (S 4 - 1 - l) l K u (by omega) (by omega) ⟨Nat.le_refl _, fun j => by rw [if_neg (by omega)]⟩
      · intro k s hs
        refine ⟨s, ?_, hs.2⟩
        show f_X13_drops_L26 (k + 1) (nI (S 4 - 1)) s = _
        have hs4 : s 4 = nI (S 4 - 1) := by rw [hs.2 4, if_neg (by omega), hu4]
        rw [f_X13_drops_L26, hs4, if_pos (nI_le (Nat.le_refl _) (by omega))]
      · intro k i s hi hs ih
        show ∃ w, f_X13_drops_L26 (k + 1) (nI i) s = some w ∧ _
        have hs4 : s 4 = nI (S 4 - 1) := by rw [hs.2 4, if_neg (by omega), hu4]
        rw [f_X13_drops_L26, hs4, if_neg (nI_ge hi (by omega)), zz_l230, nI_add, nI_1, nI_1, zz_g (by omega) (by decide), zz_g (by omega) (by decide), nI_clamp (by omega), nI_clamp (by omega)]
        refine ih _ ⟨by omega, fun j => ?_⟩
        rw [zz_upd, hs.2 j, hs.2 (230 + i + 1), if_neg (show ¬ (230 + l ≤ 230 + i + 1 ∧ 230 + i + 1 < 230 + i) by omega)]
        by_cases e : j = 230 + i
        · rw [if_pos e, if_pos (by omega), e]
        · rw [if_neg e]
          by_cases g : 230 + l ≤ j ∧ j < 230 + i
          · rw [if_pos g, if_pos (by omega)]
          · rw [if_neg g, if_neg (by omega)]
    obtain ⟨w, hw, hwv⟩ := hL
    have hw4 : w 4 = nI (S 4 - 1) := by rw [hwv 4, if_neg (by omega), pk_us]
    have hPm : zz_Pm (zz_lT S l) (upd w (230 + (S 4 - 1)) (nI 0)) := by
      intro j hj
      unfold zz_lT
      rw [zz_upd]
      by_cases e : j = 230 + (S 4 - 1)
      · rw [if_pos e, if_pos e]
      · rw [if_neg e, if_neg e, hwv j]
        by_cases g : j = 4
        · rw [if_pos g, if_neg (by omega), g, pk_us]
        · rw [if_neg g]
          by_cases q : 230 + l ≤ j ∧ j < 230 + (S 4 - 1)
          · rw [if_pos q, if_pos q, pk_un (by omega), hM _ (by omega)]
          · rw [if_neg q, if_neg q, pk_un (by omega), hM j hj]
    have hT4 : zz_lT S l 4 = S 4 - 1 := by
      unfold zz_lT
      rw [if_neg (by omega), if_pos (by first | rfl | decide)]
    have hTl : ∀ j, j < S 4 - 1 → zz_lT S l (230 + j) = S (230 + (if l ≤ j then j + 1 else j)) := by
      intro j hj
      unfold zz_lT
      rw [if_neg (by omega), if_neg (by omega)]
      by_cases q : l ≤ j
      · rw [if_pos (by omega), if_pos q]
        congr 1
      · rw [if_neg (by omega), if_neg q]
    have hTo : ∀ j, j ≠ 4 → (j < 230 ∨ 238 ≤ j) → zz_lT S l j = S j := by
      intro j h1 h2
      unfold zz_lT
      rw [if_neg (by omega), if_neg h1, if_neg (by omega)]
    generalize zz_lT S l = T at *
    have hlt : ∀ j, j < S 4 - 1 → (if l ≤ j then j + 1 else j) < S 4 := by
      intro j hj
      split <;> omega
    refine Or.inr ⟨S 4 - 1, T, lc', nI (S 4 - 1), upd w (230 + (S 4 - 1)) (nI 0), by omega, ?_, ?_, ⟨by omega, fun j hj => ?_⟩, zz_Ex_l hTo, ⟨by rw [hT4], fun j hj => ?_⟩, hPm⟩
    · rw [f_X5_tearDown, if_neg (nI_pos (by omega)), if_pos (nI_lt hl (by omega)), nI_1, hc, zz_b, zz_l1, pk_sub (by omega)]
    · rw [f_X13_drops, f_X13_isLanding, hv4, h, zz_b, zz_d (Or.inr rfl), zz_b, if_neg (by decide), zz_l1, pk_sub (by omega), hw, zz_b, hw4, zz_l230, nI_add, zz_g (by omega) (by decide), nI_clamp (by omega), pk_un (by omega), hw4]
      rfl
    · rw [hT4] at hj
      rw [hTl j hj]
      exact i2 _ (hlt j hj)
    · rw [hT4] at hj
      rw [hTl j hj, hc2 j hj, ← p2 _ (hlt j hj)]
      split <;> rfl
end ZL
