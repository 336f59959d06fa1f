/-- what is left of a plan: by a stack, and by pairs -/
def zz_ps (a : Nat × (Nat → Nat)) (m : Nat) : Nat × (Nat → Nat) := if 0 < a.1 ∧ a.2 (a.1 - 1) = zz_opp m then (a.1 - 1, a.2) else (a.1 + 1, zz_u a.2 a.1 m)
def zz_rd (f : Nat → Nat) : Nat → Nat × (Nat → Nat)
  | 0 => (0, f)
  | i + 1 => zz_ps (zz_rd f i) (f i)
theorem zz_rd_le (f : Nat → Nat) : ∀ i, (zz_rd f i).1 ≤ i
  | 0 => Nat.le_refl _
  | i + 1 => by
    have := zz_rd_le f i
    show (zz_ps (zz_rd f i) (f i)).1 ≤ i + 1
    unfold zz_ps
    split
    · show (zz_rd f i).1 - 1 ≤ i + 1
      omega
    · show (zz_rd f i).1 + 1 ≤ i + 1
      omega
theorem zz_rd_4 {f : Nat → Nat} : ∀ {i : Nat}, (∀ k, k < i → f k < 4) → ∀ k, k < (zz_rd f i).1 → (zz_rd f i).2 k < 4
  | 0, _, k, hk => absurd hk (Nat.not_lt_zero k)
  | i + 1, h, k, hk => by
    have ih := zz_rd_4 (f := f) (i := i) (fun k hk => h k (by omega))
    have hi := h i (by omega)
    change k < (zz_ps (zz_rd f i) (f i)).1 at hk
    show (zz_ps (zz_rd f i) (f i)).2 k < 4
    unfold zz_ps at hk ⊢
    split
    · rename_i e
      rw [if_pos e] at hk
      have hk2 : k < (zz_rd f i).1 - 1 := hk
      exact ih k (by omega)
    · rename_i e
      rw [if_neg e] at hk
      have hk2 : k < (zz_rd f i).1 + 1 := hk
      show zz_u (zz_rd f i).2 (zz_rd f i).1 (f i) k < 4
      rw [zz_uv]
      split
      · exact hi
      · exact ih k (by omega)
def zz_e2 (a b : Nat × (Nat → Nat)) : Prop := a.1 = b.1 ∧ ∀ k, k < a.1 → a.2 k = b.2 k
theorem zz_e2_r (a : Nat × (Nat → Nat)) : zz_e2 a a := ⟨rfl, fun _ _ => rfl⟩
theorem zz_e2_t {a b c : Nat × (Nat → Nat)} (h : zz_e2 a b) (g : zz_e2 b c) : zz_e2 a c := ⟨h.1.trans g.1, fun k hk => (h.2 k hk).trans (g.2 k (by rw [← h.1]; exact hk))⟩
theorem zz_ps_c {a b : Nat × (Nat → Nat)} (h : zz_e2 a b) (m : Nat) : zz_e2 (zz_ps a m) (zz_ps b m) := by
  obtain ⟨h1, h2⟩ := h
  unfold zz_ps
  by_cases e : 0 < a.1 ∧ a.2 (a.1 - 1) = zz_opp m
  · have e' : 0 < b.1 ∧ b.2 (b.1 - 1) = zz_opp m := by
      rw [← h1, ← h2 _ (by omega)]
      exact e
    rw [if_pos e, if_pos e']
    refine ⟨by show a.1 - 1 = b.1 - 1; rw [h1], fun k hk => h2 k ?_⟩
    have hk2 : k < a.1 - 1 := hk
    omega
  · have e' : ¬ (0 < b.1 ∧ b.2 (b.1 - 1) = zz_opp m) := by
      intro q
      apply e
      have q1 := q.1
      rw [h1]
      refine ⟨q1, ?_⟩
      rw [h2 _ (by omega)]
      exact q.2
    rw [if_neg e, if_neg e']
    refine ⟨by show a.1 + 1 = b.1 + 1; rw [h1], fun k hk => ?_⟩
    have hk2 : k < a.1 + 1 := hk
    show zz_u a.2 a.1 m k = zz_u b.2 b.1 m k
    rw [zz_uv, zz_uv, h1]
    by_cases g : k = b.1
    · rw [if_pos g, if_pos g]
    · rw [if_neg g, if_neg g]
      exact h2 k (by omega)
def zz_rr (a : Nat × (Nat → Nat)) : Prop := ∀ k, k + 1 < a.1 → a.2 k ≠ zz_opp (a.2 (k + 1))
theorem zz_ps_r {a : Nat × (Nat → Nat)} (h : zz_rr a) (m : Nat) : zz_rr (zz_ps a m) := by
  unfold zz_ps
  by_cases e : 0 < a.1 ∧ a.2 (a.1 - 1) = zz_opp m
  · rw [if_pos e]
    intro k hk
    have hk2 : k + 1 < a.1 - 1 := hk
    exact h k (by omega)
  · rw [if_neg e]
    intro k hk
    have hk2 : k + 1 < a.1 + 1 := hk
    show zz_u a.2 a.1 m k ≠ zz_opp (zz_u a.2 a.1 m (k + 1))
    rw [zz_un _ _ (by omega), zz_uv]
    by_cases g : k + 1 = a.1
    · rw [if_pos g]
      intro q
      apply e
      refine ⟨by omega, ?_⟩
      rw [show a.1 - 1 = k by omega]
      exact q
    · rw [if_neg g]
      exact h k (by omega)
theorem zz_rd_r (f : Nat → Nat) : ∀ i, zz_rr (zz_rd f i)
  | 0 => fun k hk => absurd hk (Nat.not_lt_zero _)
  | i + 1 => zz_ps_r (zz_rd_r f i) (f i)
theorem zz_ps_2 {a : Nat × (Nat → Nat)} (h : zz_rr a) {x y : Nat} (hy : y < 4) (hxy : x = zz_opp y) : zz_e2 (zz_ps (zz_ps a x) y) a := by
  have hox : zz_opp x = y := by rw [hxy, zz_opp_opp y hy]
  by_cases e : 0 < a.1 ∧ a.2 (a.1 - 1) = zz_opp x
  · have e1 : zz_ps a x = (a.1 - 1, a.2) := if_pos e
    rw [e1]
    have e2 : ¬ (0 < a.1 - 1 ∧ a.2 (a.1 - 1 - 1) = zz_opp y) := by
      intro q
      have := h (a.1 - 1 - 1) (by omega)
      rw [show a.1 - 1 - 1 + 1 = a.1 - 1 by omega, e.2, hox] at this
      exact this q.2
    have e3 : zz_ps (a.1 - 1, a.2) y = (a.1 - 1 + 1, zz_u a.2 (a.1 - 1) y) := if_neg e2
    rw [e3]
    refine ⟨by show a.1 - 1 + 1 = a.1; omega, fun k hk => ?_⟩
    show zz_u a.2 (a.1 - 1) y k = a.2 k
    rw [zz_uv]
    by_cases g : k = a.1 - 1
    · rw [if_pos g, g, e.2, hox]
    · rw [if_neg g]
  · have e1 : zz_ps a x = (a.1 + 1, zz_u a.2 a.1 x) := if_neg e
    rw [e1]
    have e2 : 0 < a.1 + 1 ∧ zz_u a.2 a.1 x (a.1 + 1 - 1) = zz_opp y := ⟨by omega, by rw [show a.1 + 1 - 1 = a.1 by omega, zz_us]; exact hxy⟩
    have e3 : zz_ps (a.1 + 1, zz_u a.2 a.1 x) y = (a.1 + 1 - 1, zz_u a.2 a.1 x) := if_pos e2
    rw [e3]
    refine ⟨by show a.1 + 1 - 1 = a.1; omega, fun k hk => ?_⟩
    have hk2 : k < a.1 + 1 - 1 := hk
    show zz_u a.2 a.1 x k = a.2 k
    rw [zz_un _ _ (by omega)]
theorem zz_rd_c {f g : Nat → Nat} : ∀ {i : Nat}, (∀ k, k < i → f k = g k) → zz_e2 (zz_rd f i) (zz_rd g i)
  | 0, _ => ⟨rfl, fun k hk => absurd hk (Nat.not_lt_zero k)⟩
  | i + 1, h => by
    show zz_e2 (zz_ps (zz_rd f i) (f i)) (zz_ps (zz_rd g i) (g i))
    rw [h i (by omega)]
    exact zz_ps_c (zz_rd_c (fun k hk => h k (by omega))) _
theorem zz_rd_cut {f g : Nat → Nat} {n q : Nat} (h4 : ∀ k, k < n → f k < 4) (hq : q + 1 < n) (hp : f q = zz_opp (f (q + 1))) (hg : ∀ k, k < n - 2 → g k = if q ≤ k then f (k + 2) else f k) : ∀ i, q + 2 + i ≤ n → zz_e2 (zz_rd f (q + 2 + i)) (zz_rd g (q + i))
  | 0, _ => by
    refine zz_e2_t (zz_ps_2 (zz_rd_r f q) (h4 _ hq) hp) (zz_rd_c (fun k hk => ?_))
    rw [hg k (by omega), if_neg (by omega)]
  | i + 1, hi => by
    have ih := zz_rd_cut h4 hq hp hg i (by omega)
    show zz_e2 (zz_ps (zz_rd f (q + 2 + i)) (f (q + 2 + i))) (zz_ps (zz_rd g (q + i)) (g (q + i)))
    rw [hg (q + i) (by omega), if_pos (by omega), show q + i + 2 = q + 2 + i by omega]
    exact zz_ps_c ih _
def zz_pp (f : Nat → Nat) (k : Nat) : Bool := decide (f k = zz_opp (f (k + 1)))
theorem zz_rd_end {f : Nat → Nat} {n : Nat} (h : zz_fi (zz_pp f) (n - 1) = none) : ∀ i, i ≤ n → zz_e2 (zz_rd f i) (i, f)
  | 0, _ => ⟨rfl, fun k hk => absurd hk (Nat.not_lt_zero k)⟩
  | i + 1, hi => by
    have ih := zz_rd_end h i (by omega)
    refine zz_e2_t (zz_ps_c ih (f i)) ?_
    have e : ¬ (0 < i ∧ f (i - 1) = zz_opp (f i)) := by
      intro q
      have := of_decide_eq_false (zz_fi_none h (i - 1) (by omega))
      rw [show i - 1 + 1 = i by omega] at this
      exact this q.2
    have e1 : zz_ps (i, f) (f i) = (i + 1, zz_u f i (f i)) := if_neg e
    rw [e1]
    refine ⟨rfl, fun k hk => ?_⟩
    show zz_u f i (f i) k = f k
    rw [zz_uv]
    split
    · rename_i g
      rw [g]
    · rfl
section ZS
variable {S : Nat → Nat} {K : Nat} {mo le row : Nat → Int32} {v scratch : Nat → Int32} {f : Nat → Nat}
theorem zz_ps_p {a : Nat × (Nat → Nat)} {m : Nat} (h : 0 < a.1 ∧ a.2 (a.1 - 1) = zz_opp m) : zz_ps a m = (a.1 - 1, a.2) := if_pos h
theorem zz_ps_q {a : Nat × (Nat → Nat)} {m : Nat} (h : ¬ (0 < a.1 ∧ a.2 (a.1 - 1) = zz_opp m)) : zz_ps a m = (a.1 + 1, zz_u a.2 a.1 m) := if_neg h
theorem zc_stackT {p n : Nat} (hp : p < 6) (hn : n ≤ 20) (hK : 100 ≤ K) (hl : le p = nI n) (h : ∀ k, k < n → mo (p * 20 + k) = nI (f k)) (h4 : ∀ k, k < n → f k < 4) : ∃ mo', f_X8_stackMoves_this_moves K mo le (nI p) (nI (p * 20)) = some (nI (zz_rd f n).1, mo') ∧ (∀ k, k < (zz_rd f n).1 → mo' (p * 20 + k) = nI ((zz_rd f n).2 k)) ∧ ∀ j, (j < p * 20 ∨ p * 20 + 20 ≤ j) → mo' j = mo j := by
  have hL : ∃ mo', f_X8_stackMoves_this_moves_L6 le (nI p) (nI (p * 20)) K (nI 0) (nI 0) mo = some (nI (zz_rd f n).1, mo') ∧ (∀ k, k < (zz_rd f n).1 → mo' (p * 20 + k) = nI ((zz_rd f n).2 k)) ∧ ∀ j, (j < p * 20 ∨ p * 20 + 20 ≤ j) → mo' j = mo j := by
    refine zz_for0 (fun K i (s : Int32 × (Nat → Int32)) => f_X8_stackMoves_this_moves_L6 le (nI p) (nI (p * 20)) K s.1 (nI i) s.2) n (fun i s => s.1 = nI (zz_rd f i).1 ∧ (∀ k, k < (zz_rd f i).1 → s.2 (p * 20 + k) = nI ((zz_rd f i).2 k)) ∧ ∀ j, (j < p * 20 ∨ p * 20 + i ≤ j) → s.2 j = mo j) (fun o => ∃ mo', o = some (nI (zz_rd f n).1, mo') ∧ (∀ k, k < (zz_rd f n).1 → mo' (p * 20 + k) = nI ((zz_rd f n).2 k)) ∧ ∀ j, (j < p * 20 ∨ p * 20 + 20 ≤ j) → mo' j = mo j) ?_ ?_ K (nI 0, mo) (by omega) ⟨rfl, fun k hk => absurd hk (Nat.not_lt_zero k), fun j _ => rfl⟩
    · intro k s hs
      refine ⟨s.2, ?_, hs.2.1, fun j hj => hs.2.2 j (by omega)⟩
      show f_X8_stackMoves_this_moves_L6 le (nI p) (nI (p * 20)) (k + 1) s.1 (nI n) s.2 = _
      rw [f_X8_stackMoves_this_moves_L6, zz_g hp (by decide), nI_clamp (by omega), hl, if_pos (nI_le (Nat.le_refl _) (by omega)), hs.1]
    · intro k i s hi hs ih
      obtain ⟨s1, s2, s3⟩ := hs
      have hle := zz_rd_le f i
      have hr : s.2 (p * 20 + i) = nI (f i) := by rw [s3 _ (by omega), h i hi]
      have hfi := h4 i hi
      have h40 := zz_rd_4 (f := f) (i := i) (fun k hk => h4 k (by omega))
      have hop := zz_opp_lt _ hfi
      show ∃ mo', f_X8_stackMoves_this_moves_L6 le (nI p) (nI (p * 20)) (k + 1) s.1 (nI i) s.2 = some (_, mo') ∧ _
      have push : ¬ (0 < (zz_rd f i).1 ∧ (zz_rd f i).2 ((zz_rd f i).1 - 1) = zz_opp (f i)) → ∃ mo', f_X8_stackMoves_this_moves_L6 le (nI p) (nI (p * 20)) k (nI ((zz_rd f i).1 + 1)) (nI (i + 1)) (upd s.2 (p * 20 + (zz_rd f i).1) (nI (f i))) = some (nI (zz_rd f n).1, mo') ∧ (∀ k, k < (zz_rd f n).1 → mo' (p * 20 + k) = nI ((zz_rd f n).2 k)) ∧ ∀ j, (j < p * 20 ∨ p * 20 + 20 ≤ j) → mo' j = mo j := by
        intro e
        have e1 : zz_rd f (i + 1) = ((zz_rd f i).1 + 1, zz_u (zz_rd f i).2 (zz_rd f i).1 (f i)) := zz_ps_q e
        refine ih (_, _) ⟨congrArg nI (congrArg Prod.fst e1.symm), fun j hj => ?_, fun j hj => ?_⟩
        · rw [e1] at hj ⊢
          have hj2 : j < (zz_rd f i).1 + 1 := hj
          show upd s.2 (p * 20 + (zz_rd f i).1) (nI (f i)) (p * 20 + j) = nI (zz_u (zz_rd f i).2 (zz_rd f i).1 (f i) j)
          rw [zz_upd, zz_uv]
          by_cases g : j = (zz_rd f i).1
          · rw [if_pos (by omega), if_pos g]
          · rw [if_neg (by omega), if_neg g]; exact s2 j (by omega)
        · show upd s.2 (p * 20 + (zz_rd f i).1) (nI (f i)) j = mo j
          rw [zz_upd, if_neg (by omega)]; exact s3 j (by omega)
      rw [f_X8_stackMoves_this_moves_L6, zz_g hp (by decide), nI_clamp (by omega), hl, if_neg (nI_ge hi (by omega)), zc_moveIn hp (by omega) hr, zz_b, s1, nI_add, nI_1, nI_1]
      by_cases z : (zz_rd f i).1 = 0
      · rw [if_pos (by rw [z]; decide), zz_g (by omega) (by decide), nI_clamp (by omega)]
        exact push (by omega)
      · rw [if_neg (nI_nle (by omega) (by omega)), zz_l1, pk_sub (by omega), zz_g (by omega) (by decide), zc_opposite _ hfi, zz_b, nI_clamp (by omega), show p * 20 + (zz_rd f i).1 - 1 = p * 20 + ((zz_rd f i).1 - 1) by omega, s2 _ (by omega)]
        have h41 := h40 ((zz_rd f i).1 - 1) (by omega)
        by_cases e : (zz_rd f i).2 ((zz_rd f i).1 - 1) = zz_opp (f i)
        · rw [if_pos (by rw [e])]
          have e1 : zz_rd f (i + 1) = ((zz_rd f i).1 - 1, (zz_rd f i).2) := zz_ps_p ⟨by omega, e⟩
          have e2 : nI (zz_rd f i).1 + -nI 1 = nI ((zz_rd f i).1 - 1) := by
            obtain ⟨z', hz'⟩ : ∃ z', (zz_rd f i).1 = z' + 1 := ⟨(zz_rd f i).1 - 1, by omega⟩
            rw [hz']
            exact pk_m1 z'
          rw [e2]
          refine ih (_, _) ⟨congrArg nI (congrArg Prod.fst e1.symm), fun j hj => ?_, fun j hj => s3 j (by omega)⟩
          rw [e1] at hj ⊢
          have hj2 : j < (zz_rd f i).1 - 1 := hj
          exact s2 j (by omega)
        · rw [if_neg (zz_ne e (by omega) (by omega)), zz_g (by omega) (by decide), nI_clamp (by omega)]
          exact push (fun q => e q.2)
  obtain ⟨mo', h1, h2, h3⟩ := hL
  refine ⟨mo', ?_, h2, h3⟩
  rw [f_X8_stackMoves_this_moves]
  show (f_X8_stackMoves_this_moves_L6 le (nI p) (nI (p * 20)) K (nI 0) (nI 0) mo).bind _ = _
  rw [h1]
  rfl
end ZS
