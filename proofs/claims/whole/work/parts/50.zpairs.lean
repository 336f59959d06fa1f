-- the stack in other rows, the pairs, and the calls that rest on them
section ZT
variable {S : Nat → Nat} {K : Nat} {mo le row : Nat → Int32} {v scratch : Nat → Int32} {f : Nat → Nat}
theorem zc_stackL {p n : Nat} (hp : p < 6) (hn : n ≤ 20) (hK : 100 ≤ K) (hl : le p = nI n) (h : ∀ k, k < n → mo (p * 20 + k) = nI (f k)) (h4 : ∀ k, k < n → f k < 4) (row : Nat → Int32) : ∃ row', f_X8_lengthByStack K mo le row (nI p) = some (nI (zz_rd f n).1, row') := by
  have hL : ∃ row', f_X8_stackMoves_L6 mo le (nI p) (nI 0) K (nI 0) (nI 0) row = some (nI (zz_rd f n).1, row') := by
    refine zz_for0 (fun K i (s : Int32 × (Nat → Int32)) => f_X8_stackMoves_L6 mo le (nI p) (nI 0) K s.1 (nI i) s.2) n (fun i s => s.1 = nI (zz_rd f i).1 ∧ (∀ k, k < (zz_rd f i).1 → s.2 k = nI ((zz_rd f i).2 k))) (fun o => ∃ row', o = some (nI (zz_rd f n).1, row')) ?_ ?_ K (nI 0, row) (by omega) ⟨rfl, fun k hk => absurd hk (Nat.not_lt_zero k)⟩
    · intro k s hs
      refine ⟨s.2, ?_⟩
      show f_X8_stackMoves_L6 mo le (nI p) (nI 0) (k + 1) s.1 (nI n) s.2 = _
      rw [f_X8_stackMoves_L6, zz_g hp (by decide), nI_clamp (by omega), hl, if_pos (nI_le (Nat.le_refl _) (by omega)), hs.1]
    · intro k i s hi hs ih
      obtain ⟨s1, s2⟩ := hs
      have hle := zz_rd_le f i
      have hfi := h4 i hi
      have h40 := zz_rd_4 (f := f) (i := i) (fun k hk => h4 k (by omega))
      have hop := zz_opp_lt _ hfi
      show ∃ row', f_X8_stackMoves_L6 mo le (nI p) (nI 0) (k + 1) s.1 (nI i) s.2 = some (_, row')
      have push : ¬ (0 < (zz_rd f i).1 ∧ (zz_rd f i).2 ((zz_rd f i).1 - 1) = zz_opp (f i)) → ∃ row', f_X8_stackMoves_L6 mo le (nI p) (nI 0) k (nI ((zz_rd f i).1 + 1)) (nI (i + 1)) (upd s.2 (0 + (zz_rd f i).1) (nI (f i))) = some (nI (zz_rd f n).1, row') := by
        intro e
        have e1 : zz_rd f (i + 1) = ((zz_rd f i).1 + 1, zz_u (zz_rd f i).2 (zz_rd f i).1 (f i)) := zz_ps_q e
        refine ih (_, _) ⟨congrArg nI (congrArg Prod.fst e1.symm), fun j hj => ?_⟩
        rw [e1] at hj ⊢
        have hj2 : j < (zz_rd f i).1 + 1 := hj
        show upd s.2 (0 + (zz_rd f i).1) (nI (f i)) j = nI (zz_u (zz_rd f i).2 (zz_rd f i).1 (f i) j)
        rw [zz_upd, zz_uv]
        by_cases g : j = (zz_rd f i).1
        · rw [if_pos (by omega), if_pos g]
        · rw [if_neg (by omega), if_neg g]; exact s2 j (by omega)
      rw [f_X8_stackMoves_L6, zz_g hp (by decide), nI_clamp (by omega), hl, if_neg (nI_ge hi (by omega)), zc_moveIn hp (by omega) (h i hi), zz_b, s1, nI_add, nI_1, nI_1]
      by_cases z : (zz_rd f i).1 = 0
      · rw [if_pos (by rw [z]; decide), zz_g (by omega) (by decide), nI_clamp (by omega)]
        exact push (by omega)
      · rw [if_neg (nI_nle (by omega) (by omega)), zz_l1, pk_sub (by omega), zz_g (by omega) (by decide), zc_opposite _ hfi, zz_b, nI_clamp (by omega), show 0 + (zz_rd f i).1 - 1 = ((zz_rd f i).1 - 1) by omega, s2 _ (by omega)]
        have h41 := h40 ((zz_rd f i).1 - 1) (by omega)
        by_cases e : (zz_rd f i).2 ((zz_rd f i).1 - 1) = zz_opp (f i)
        · rw [if_pos (by rw [e])]
          have e1 : zz_rd f (i + 1) = ((zz_rd f i).1 - 1, (zz_rd f i).2) := zz_ps_p ⟨by omega, e⟩
          have e2 : nI (zz_rd f i).1 + -nI 1 = nI ((zz_rd f i).1 - 1) := by
            obtain ⟨z', hz'⟩ : ∃ z', (zz_rd f i).1 = z' + 1 := ⟨(zz_rd f i).1 - 1, by omega⟩
            rw [hz']
            exact pk_m1 z'
          rw [e2]
          refine ih (_, _) ⟨congrArg nI (congrArg Prod.fst e1.symm), fun j hj => ?_⟩
          rw [e1] at hj ⊢
          have hj2 : j < (zz_rd f i).1 - 1 := hj
          exact s2 j (by omega)
        · rw [if_neg (zz_ne e (by omega) (by omega)), zz_g (by omega) (by decide), nI_clamp (by omega)]
          exact push (fun q => e q.2)
  obtain ⟨row', h1⟩ := hL
  refine ⟨row', ?_⟩
  rw [f_X8_lengthByStack, f_X8_stackMoves]
  show ((f_X8_stackMoves_L6 mo le (nI p) (nI 0) K (nI 0) (nI 0) row).bind _).bind _ = _
  rw [h1]
  rfl
theorem zm_left {p n : Nat} (hp : p < 6) (hn : n ≤ 20) (hK : 100 ≤ K) (hM : zz_Pm S v) (hl : S (104 + p) = n) (h4 : ∀ k, k < n → S (110 + 20 * p + k) < 4) : ∃ w, f_X13_left K v scratch (nI p) = some (nI (zz_rd (fun k => S (110 + 20 * p + k)) n).1, w) ∧ ∀ k, k < (zz_rd (fun k => S (110 + 20 * p + k)) n).1 → w k = nI ((zz_rd (fun k => S (110 + 20 * p + k)) n).2 k) := by
  generalize hf : (fun k => S (110 + 20 * p + k)) = f
  have hfk : ∀ k, S (110 + 20 * p + k) = f k := fun k => by rw [← hf]
  have h4 : ∀ k, k < n → f k < 4 := fun k hk => by rw [← hfk]; exact h4 k hk
  have hL : ∃ w, f_X13_left_L4 v (nI p) K (nI 0) (nI 0) scratch = some (nI (zz_rd f n).1, w) ∧ ∀ k, k < (zz_rd f n).1 → w k = nI ((zz_rd f n).2 k) := by
    refine zz_for0 (fun K i (s : Int32 × (Nat → Int32)) => f_X13_left_L4 v (nI p) K s.1 (nI i) s.2) n (fun i s => s.1 = nI (zz_rd f i).1 ∧ (∀ k, k < (zz_rd f i).1 → s.2 k = nI ((zz_rd f i).2 k))) (fun o => ∃ w, o = some (nI (zz_rd f n).1, w) ∧ ∀ k, k < (zz_rd f n).1 → w k = nI ((zz_rd f n).2 k)) ?_ ?_ K (nI 0, scratch) (by omega) ⟨rfl, fun k hk => absurd hk (Nat.not_lt_zero k)⟩
    · intro k s hs
      refine ⟨s.2, ?_, hs.2⟩
      show f_X13_left_L4 v (nI p) (k + 1) s.1 (nI n) s.2 = _
      rw [f_X13_left_L4, zz_l104, nI_add, zz_g (by omega) (by decide), nI_clamp (by omega), hM _ (by omega), hl, if_pos (nI_le (Nat.le_refl _) (by omega)), hs.1]
    · intro k i s hi hs ih
      obtain ⟨s1, s2⟩ := hs
      have hle := zz_rd_le f i
      have hfi := h4 i hi
      have h40 := zz_rd_4 (f := f) (i := i) (fun k hk => h4 k (by omega))
      have hop := zz_opp_lt _ hfi
      show ∃ w, f_X13_left_L4 v (nI p) (k + 1) s.1 (nI i) s.2 = some (_, w) ∧ _
      have push : ¬ (0 < (zz_rd f i).1 ∧ (zz_rd f i).2 ((zz_rd f i).1 - 1) = zz_opp (f i)) → ∃ w, f_X13_left_L4 v (nI p) k (nI ((zz_rd f i).1 + 1)) (nI (i + 1)) (upd s.2 (zz_rd f i).1 (nI (f i))) = some (nI (zz_rd f n).1, w) ∧ ∀ k, k < (zz_rd f n).1 → w k = nI ((zz_rd f n).2 k) := by
        intro e
        have e1 : zz_rd f (i + 1) = ((zz_rd f i).1 + 1, zz_u (zz_rd f i).2 (zz_rd f i).1 (f i)) := zz_ps_q e
        refine ih (_, _) ⟨congrArg nI (congrArg Prod.fst e1.symm), fun j hj => ?_⟩
        rw [e1] at hj ⊢
        have hj2 : j < (zz_rd f i).1 + 1 := hj
        show upd s.2 (zz_rd f i).1 (nI (f i)) j = nI (zz_u (zz_rd f i).2 (zz_rd f i).1 (f i) j)
        rw [zz_upd, zz_uv]
        by_cases g : j = (zz_rd f i).1
        · rw [if_pos (by omega), if_pos g]
        · rw [if_neg (by omega), if_neg g]; exact s2 j (by omega)
      rw [f_X13_left_L4, zz_l104, nI_add, zz_g (by omega) (by decide), nI_clamp (by omega), hM _ (by omega), hl, if_neg (nI_ge hi (by omega)), zm_at, zz_b, zz_g (by omega) (by decide), nI_clamp (by omega), hM _ (by omega), hfk, s1, nI_1, nI_1]
      by_cases z : (zz_rd f i).1 = 0
      · rw [if_pos (by rw [z]; decide), zz_g (by omega) (by decide), nI_clamp (by omega)]
        exact push (by omega)
      · rw [if_neg (nI_nle (by omega) (by omega)), zz_xor _ hfi, zz_l1, pk_sub (by omega), zz_g (by omega) (by decide), nI_clamp (by omega), s2 _ (by omega)]
        have h41 := h40 ((zz_rd f i).1 - 1) (by omega)
        by_cases e : (zz_rd f i).2 ((zz_rd f i).1 - 1) = zz_opp (f i)
        · rw [if_pos (by rw [e])]
          have e1 : zz_rd f (i + 1) = ((zz_rd f i).1 - 1, (zz_rd f i).2) := zz_ps_p ⟨by omega, e⟩
          have e2 : nI (zz_rd f i).1 + -nI 1 = nI ((zz_rd f i).1 - 1) := by
            obtain ⟨z', hz'⟩ : ∃ z', (zz_rd f i).1 = z' + 1 := ⟨(zz_rd f i).1 - 1, by omega⟩
            rw [hz']
            exact pk_m1 z'
          rw [e2]
          refine ih (_, _) ⟨congrArg nI (congrArg Prod.fst e1.symm), fun j hj => ?_⟩
          rw [e1] at hj ⊢
          have hj2 : j < (zz_rd f i).1 - 1 := hj
          exact s2 j (by omega)
        · rw [if_neg (zz_ne e (by omega) (by omega)), zz_g (by omega) (by decide), nI_clamp (by omega)]
          exact push (fun q => e q.2)
  obtain ⟨w, h1, h2⟩ := hL
  refine ⟨w, ?_, h2⟩
  rw [f_X13_left]
  show (f_X13_left_L4 v (nI p) K (nI 0) (nI 0) scratch).bind _ = _
  rw [h1]
  rfl
theorem zp_reduce (hK : 2000 ≤ K) (ip : zz_Ip S) (pp : zz_Pp S mo le) (hM : zz_Pm S v) (x : Int32) :
    (∃ c e r, f_X8_shorten K mo le x = some (c, mo, le) ∧ f_X13_reduces K 0 v scratch x = some (r, e, v, scratch) ∧ (c = -1 ∧ e = 1)) ∨
    (∃ a T mo' le' v' sc', a < 2 ^ 31 ∧ f_X8_shorten K mo le x = some (nI a, mo', le') ∧ f_X13_reduces K 0 v scratch x = some (nI a, 0, v', sc') ∧ zz_Ip T ∧ (zz_Er S T ∧ zz_Eb S T ∧ zz_El S T ∧ zz_Ef S T) ∧ zz_Pp T mo' le' ∧ zz_Pm T v') := by
  rcases zz_plan x with ⟨h1, h2⟩ | ⟨p, hp, rfl, h1, h2⟩
  · refine Or.inl ⟨-1, 1, 0, ?_, ?_, rfl, rfl⟩
    · rw [f_X8_shorten, h1]; rfl
    · rw [f_X13_reduces, h2]; rfl
  · have hl := ip.1 p hp
    have h4 : ∀ k, k < S (104 + p) → S (110 + 20 * p + k) < 4 := fun k hk => ip.2 p k hp hk
    obtain ⟨w, hw, hw2⟩ := zm_left (scratch := scratch) (K := K) hp hl (by omega) hM rfl h4
    obtain ⟨mo', hc, hc2, hc3⟩ := zc_stackT (mo := mo) (le := le) (K := K) (f := fun k => S (110 + 20 * p + k)) hp hl (by omega) (pp.1 p hp) (fun k hk => pp.2 p k hp hk) h4
    have h40 := zz_rd_4 (f := fun k => S (110 + 20 * p + k)) h4
    have hle := zz_rd_le (fun k => S (110 + 20 * p + k)) (S (104 + p))
    generalize zz_rd (fun k => S (110 + 20 * p + k)) (S (104 + p)) = d at *
    obtain ⟨v', hv, hv2⟩ := zm_becomes (K := K) (scratch := w) (sc := d.2) (by omega) hM hp (n := d.1) (by omega) hw2
    refine Or.inr ⟨d.1, _, mo', upd le p (nI d.1), v', w, by omega, ?_, ?_, zz_bT_I ip hp (by omega) h40, zz_bT_E S _ hp, zz_bT_P ip pp hp (by omega) hc2 hc3, hv2⟩
    · rw [f_X8_shorten, h1, zz_b, if_neg (by decide), zz_l20, pk_mul, hc, zz_b, zz_g hp (by decide), zz_g hp (by decide), nI_clamp (by omega), pk_us]
    · rw [f_X13_reduces, h2, zz_b, if_neg (by decide), hw, zz_b, hv]
      rfl
theorem zz_cp {α : Type} {a b n n0 n1 : Nat} {x : Option α} (h0 : a + n ≤ n0) (h1 : b + n ≤ n1) (g0 : n0 < 2 ^ 31) (g1 : n1 < 2 ^ 31) : mm_g (mm_cp (nI a) (nI b) (nI n) n0 n1) x = x := by
  unfold mm_cp
  refine zz_d ⟨nI_pos (by omega), nI_pos (by omega), nI_pos (by omega), ?_, ?_⟩
  · rw [nI_clamp (by omega), nI_clamp (by omega)]; exact h0
  · rw [nI_clamp (by omega), nI_clamp (by omega)]; exact h1
theorem zc_firstPair {n : Nat} (hn : n ≤ 20) (hK : 100 ≤ K) (h : ∀ k, k < n → row k = nI (f k)) (h4 : ∀ k, k < n → f k < 4) : f_X8_firstPair K row (nI n) = some (zz_o (zz_fi (zz_pp f) (n - 1))) := by
  refine zz_for0 (fun K i (_ : Unit) => f_X8_firstPair_L2 row (nI n) K (nI i)) (n - 1) (fun i _ => zz_fi (zz_pp f) i = none) (fun o => o = some (zz_o (zz_fi (zz_pp f) (n - 1)))) ?_ ?_ K () (by omega) rfl
  · intro k _ h
    show f_X8_firstPair_L2 row (nI n) (k + 1) (nI (n - 1)) = _
    rw [f_X8_firstPair_L2, nI_1, if_pos (nI_le (by omega) (by omega)), h]
    rfl
  · intro k i _ hi hz ih
    show f_X8_firstPair_L2 row (nI n) (k + 1) (nI i) = _
    have h1 := h4 (i + 1) (by omega)
    have h2 := h4 i (by omega)
    have h3 := zz_opp_lt _ h1
    rw [f_X8_firstPair_L2, nI_1, if_neg (nI_ge (by omega) (by omega)), zz_g (by omega) (by decide), zz_g (by omega) (by decide), nI_clamp (by omega), nI_clamp (by omega), h (i + 1) (by omega), h i (by omega), zc_opposite _ h1, zz_b]
    by_cases e : f i = zz_opp (f (i + 1))
    · rw [if_pos (by rw [← e]), zz_fi_y hz (decide_eq_true e) hi]
      rfl
    · rw [if_neg (zz_ne e (by omega) (by omega))]
      exact ih () (zz_fi_n hz (decide_eq_false e))
theorem zc_cutL {n q : Nat} (hn : n ≤ 20) (hK : 100 ≤ K) (hq : q + 1 < n) (row : Nat → Int32) : ∃ row', f_X8_lengthByPairs_L50 (nI n) K (nI (q + 2)) row = some row' ∧ ∀ k, k < n - 2 → row' k = if q ≤ k then row (k + 2) else row k := by
  refine zz_for (fun K i (s : Nat → Int32) => f_X8_lengthByPairs_L50 (nI n) K (nI i) s) n (fun i s => q + 2 ≤ i ∧ ∀ j, s j = if q ≤ j ∧ j + 2 < i then row (j + 2) else row j) (fun o => ∃ row', o = some row' ∧ ∀ k, k < n - 2 → row' k = if q ≤ k then row (k + 2) else row k) ?_ ?_ (n - (q + 2)) (q + 2) K row (by omega) (by omega) ⟨Nat.le_refl _, fun j => by rw [if_neg (by omega)]⟩
  · intro k s hs
    refine ⟨s, ?_, fun j hj => ?_⟩
    · show f_X8_lengthByPairs_L50 (nI n) (k + 1) (nI n) s = _
      rw [f_X8_lengthByPairs_L50, if_pos (nI_le (Nat.le_refl _) (by omega))]
    · rw [hs.2 j]
      by_cases e : q ≤ j
      · rw [if_pos ⟨e, by omega⟩, if_pos e]
      · rw [if_neg (fun g => e g.1), if_neg e]
  · intro k i s hi hs ih
    show ∃ row', f_X8_lengthByPairs_L50 (nI n) (k + 1) (nI i) s = some row' ∧ _
    rw [f_X8_lengthByPairs_L50, if_neg (nI_ge hi (by omega)), zz_g (by omega) (by decide), zz_l2, pk_sub (by omega), zz_g (by omega) (by decide), nI_clamp (by omega), nI_clamp (by omega), nI_1]
    refine ih _ ⟨by omega, fun j => ?_⟩
    rw [zz_upd, hs.2 j, hs.2 i, if_neg (show ¬ (q ≤ i ∧ i + 2 < i) by omega)]
    by_cases e : j = i - 2
    · rw [if_pos e, if_pos (by omega), show j + 2 = i by omega]
    · rw [if_neg e]
      by_cases g : q ≤ j ∧ j + 2 < i
      · rw [if_pos g, if_pos (by omega)]
      · rw [if_neg g, if_neg (by omega)]
theorem zc_pairsL {m : Nat} (hK : 100 ≤ K) : ∀ (N n r : Nat) (k : Nat) (f : Nat → Nat) (row : Nat → Int32), n ≤ N → N + r ≤ 20 → N < k → (∀ j, j < n → row j = nI (f j)) → (∀ j, j < n → f j < 4) → (zz_rd f n).1 = m → ∃ row', f_X8_lengthByPairs_L31 K k (nI n) (zz_o (zz_fi (zz_pp f) (n - 1))) (nI r) row = some (nI m, row') := by
  intro N
  induction N with
  | zero =>
    intro n r k f row hn hr hk h h4 hm
    have e : n = 0 := by omega
    subst e
    obtain ⟨k, rfl, _⟩ := zz_k k 0 hk
    have e0 : (zz_rd f 0).1 = 0 := rfl
    refine ⟨row, ?_⟩
    rw [f_X8_lengthByPairs_L31, ← hm, e0]
    by_cases g : r = 20
    · rw [g, if_pos (by decide)]
    · rw [zz_l20, if_neg (nI_ge (by omega) (by decide)), if_pos (by first | rfl | decide)]
  | succ N ih =>
    intro n r k f row hn hr hk h h4 hm
    obtain ⟨k, rfl, hk2⟩ := zz_k k (N + 1) hk
    rw [f_X8_lengthByPairs_L31, zz_l20, if_neg (nI_ge (by omega) (by decide))]
    cases hf : zz_fi (zz_pp f) (n - 1) with
    | none =>
      have := (zz_rd_end hf n (Nat.le_refl _)).1
      refine ⟨row, ?_⟩
      rw [if_pos (by first | rfl | decide), ← hm, this]
    | some q =>
      obtain ⟨hq, hq2, _⟩ := zz_fi_some hf
      have hqp := of_decide_eq_true hq2
      obtain ⟨row2, hc, hc2⟩ := zc_cutL (K := K) (n := n) (q := q) (by omega) hK (by omega) row
      show ∃ row', (if nI q = -1 then _ else _) = some (nI m, row')
      have e2 : nI n + -nI 2 = nI (n - 2) := by
        obtain ⟨z, hz⟩ : ∃ z, n = z + 2 := ⟨n - 2, by omega⟩
        rw [hz, ← nI_add, show z + 2 - 2 = z by omega, show (nI z + nI 2 + -nI 2 : Int32) = nI z + (nI 2 + -nI 2) from Int32.add_assoc _ _ _, show (nI 2 + -nI 2 : Int32) = nI 0 by decide, nI_add, Nat.add_zero]
      rw [if_neg (zz_n1 (by omega)), zz_os, zz_l2, nI_add, hc, zz_b, e2, nI_1]
      have hrow : ∀ j, j < n - 2 → row2 j = nI ((fun j => if q ≤ j then f (j + 2) else f j) j) := by
        intro j hj
        rw [hc2 j hj]
        show _ = nI (if q ≤ j then f (j + 2) else f j)
        split
        · rw [h _ (by omega)]
        · rw [h _ (by omega)]
      have h42 : ∀ j, j < n - 2 → (fun j => if q ≤ j then f (j + 2) else f j) j < 4 := by
        intro j hj
        show (if q ≤ j then f (j + 2) else f j) < 4
        split
        · exact h4 _ (by omega)
        · exact h4 _ (by omega)
      rw [zc_firstPair (K := K) (n := n - 2) (by omega) hK hrow h42, zz_b]
      refine ih (n - 2) (r + 1) k _ row2 (by omega) (by omega) (by omega) hrow h42 ?_
      have := zz_rd_cut (f := f) (g := fun j => if q ≤ j then f (j + 2) else f j) h4 (by omega) hqp (fun j hj => rfl) (n - 2 - q) (by omega)
      rw [show q + 2 + (n - 2 - q) = n by omega, show q + (n - 2 - q) = n - 2 by omega] at this
      rw [← this.1, hm]
theorem zc_pairs {p n : Nat} (hp : p < 6) (hn : n ≤ 20) (hK : 100 ≤ K) (hl : le p = nI n) (h : ∀ k, k < n → mo (p * 20 + k) = nI (f k)) (h4 : ∀ k, k < n → f k < 4) (row : Nat → Int32) : ∃ row', f_X8_lengthByPairs K mo le row (nI p) = some (nI (zz_rd f n).1, row') := by
  have hr : ∀ j, j < n → va_cpy mo row (p * 20) 0 n j = nI (f j) := by
    intro j hj
    rw [pk_cpy_in (Nat.zero_le _) (by omega), Nat.sub_zero]
    exact h j hj
  rw [f_X8_lengthByPairs, zz_g hp (by decide), nI_clamp (by omega), hl, zz_l20, pk_mul, zz_l0, zz_cp (by omega) (by omega) (by decide) (by decide), nI_clamp (by omega), nI_clamp (by omega), zc_firstPair hn hK hr h4, zz_b]
  obtain ⟨row', h1⟩ := zc_pairsL (K := K) hK n n 0 K f _ (Nat.le_refl _) (by omega) (by omega) hr h4 rfl
  refine ⟨row', ?_⟩
  rw [h1]
  rfl
end ZT
