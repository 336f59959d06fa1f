-- plans on both sides
section ZP
variable {S T : Nat → Nat} {B K : Nat} {mo le : Nat → Int32} {v scratch : Nat → Int32} {sc : Nat → Nat}
theorem zc_moveIn {p k z : Nat} (hp : p < 6) (hk : k < 20) (h : mo (p * 20 + k) = nI z) : f_X8_moveIn mo (nI p) (nI k) = some (nI z) := by
  rw [f_X8_moveIn, zz_l20, pk_mul, nI_add, zz_g (by omega) (by decide), nI_clamp (by omega), h]
theorem zc_setMove {p k : Nat} (hp : p < 6) (hk : k < 20) (z : Int32) : f_X8_setMove mo (nI p) (nI k) z = some (upd mo (p * 20 + k) z) := by
  rw [f_X8_setMove, zz_l20, pk_mul, nI_add, zz_g (by omega) (by decide), nI_clamp (by omega)]
theorem zm_at (p k : Nat) : f_X13_at (nI p) (nI k) = some (nI (110 + 20 * p + k)) := by
  rw [f_X13_at, zz_l20, zz_l110, pk_mul, nI_add, nI_add]
theorem zz_Pp_len (pp : zz_Pp S mo le) {p : Nat} (hp : p < 6) : le p = nI (S (104 + p)) := pp.1 p hp
theorem zp_extend (hK : 2000 ≤ K) (ip : zz_Ip S) (pp : zz_Pp S mo le) (hM : zz_Pm S v) (x y : Int32) :
    (∃ c e r, f_X8_extend K mo le x y = some (c, mo, le) ∧ f_X13_appends 0 v x (zz_o (zz_mv y)) = some (r, e, v) ∧ ((c = -1 ∧ e = 1) ∨ (c = -4 ∧ e = 2) ∨ (c = -3 ∧ e = 3))) ∨
    (∃ a T mo' le' v', a < 2 ^ 31 ∧ f_X8_extend K mo le x y = some (nI a, mo', le') ∧ f_X13_appends 0 v x (zz_o (zz_mv y)) = some (nI a, 0, v') ∧ zz_Ip T ∧ (zz_Er S T ∧ zz_Eb S T ∧ zz_El S T ∧ zz_Ef S T) ∧ zz_Pp T mo' le' ∧ zz_Pm T v') := by
  obtain ⟨i1, i2⟩ := ip
  obtain ⟨p1, p2⟩ := pp
  rcases zz_plan x with ⟨h1, h2⟩ | ⟨p, hp, rfl, h1, h2⟩
  · refine Or.inl ⟨-1, 1, 0, ?_, ?_, Or.inl ⟨rfl, rfl⟩⟩
    · rw [f_X8_extend, h1]; rfl
    · rw [f_X13_appends, h2]; rfl
  · have hl := i1 p hp
    cases hm : zz_mv y with
    | none =>
      refine Or.inl ⟨-4, 2, 0, ?_, ?_, Or.inr (Or.inl ⟨rfl, rfl⟩)⟩
      · rw [f_X8_extend, h1, zz_b, if_neg (by decide), zc_moveOf (by omega), hm, zz_b]
        rfl
      · rw [f_X13_appends, h2, zz_b, if_neg (by decide), if_neg (by decide)]
        rfl
    | some m =>
      have hm4 := (zz_mv_lt hm).1
      by_cases h20 : S (104 + p) = 20
      · refine Or.inl ⟨-3, 3, 0, ?_, ?_, Or.inr (Or.inr ⟨rfl, rfl⟩)⟩
        · rw [f_X8_extend, h1, zz_b, if_neg (by decide), zc_moveOf (by omega), hm, zz_b]
          show (if nI m = -1 then _ else _) = _
          rw [if_neg (zz_n1 (by omega)), zz_g hp (by decide), nI_clamp (by omega), p1 p hp, h20, if_neg (by decide)]
        · rw [f_X13_appends, h2, zz_b, if_neg (by decide), zz_os, if_pos (nI_pos' (by omega)), zz_l104, nI_add, zz_g (by omega) (by decide), nI_clamp (by omega), hM _ (by omega), h20, if_pos (by decide)]
          rfl
      · generalize hn : S (104 + p) = n at *
        have hT : ∀ k, k ≠ 104 + p → k ≠ 110 + 20 * p + n → zz_u (zz_u S (110 + 20 * p + n) m) (104 + p) (n + 1) k = S k := fun k h1 h2 => by rw [zz_un _ _ h1, zz_un _ _ h2]
        have hTl : zz_u (zz_u S (110 + 20 * p + n) m) (104 + p) (n + 1) (104 + p) = n + 1 := zz_us _ _ _
        have hTm : zz_u (zz_u S (110 + 20 * p + n) m) (104 + p) (n + 1) (110 + 20 * p + n) = m := by rw [zz_un _ _ (by omega), zz_us]
        have hPm : zz_Pm (zz_u (zz_u S (110 + 20 * p + n) m) (104 + p) (n + 1)) (upd (upd v (110 + 20 * p + n) (nI m)) (104 + p) (nI (n + 1))) := zz_Pm_u (zz_Pm_u hM _ _) _ _
        generalize zz_u (zz_u S (110 + 20 * p + n) m) (104 + p) (n + 1) = T at *
        refine Or.inr ⟨n + 1, T, upd mo (p * 20 + n) (nI m), upd le p (nI (n + 1)), _, by omega, ?_, ?_, ⟨fun q hq => ?_, fun q k hq hk => ?_⟩, zz_Ex_p (fun k hk => hT k (by omega) (by omega)), ⟨fun q hq => ?_, fun q k hq hk => ?_⟩, hPm⟩
        · rw [f_X8_extend, h1, zz_b, if_neg (by decide), zc_moveOf (by omega), hm, zz_b]
          show (if nI m = -1 then _ else _) = _
          rw [if_neg (zz_n1 (by omega)), zz_g hp (by decide), nI_clamp (by omega), p1 p hp, hn, zz_l20, if_pos (nI_lt (by omega) (by decide)), zz_g hp (by decide), zc_setMove hp (by omega), zz_b, zz_g hp (by decide), zz_g hp (by decide), zz_g hp (by decide), nI_1, pk_us]
          rfl
        · rw [f_X13_appends, h2, zz_b, if_neg (by decide)]
          show (if 0 ≤ nI m then _ else _) = _
          rw [if_pos (nI_pos' (by omega)), zz_l104, nI_add, zz_g (by omega) (by decide), nI_clamp (by omega), hM _ (by omega), hn, zz_l20, if_neg (zz_ne h20 (by omega) (by decide)), zm_at, zz_b, zz_g (by omega) (by decide), zz_g (by omega) (by decide), zz_g (by omega) (by decide), zz_g (by omega) (by decide), nI_clamp (by omega), pk_us, pk_un (by omega), hM _ (by omega), hn, nI_1]
          rfl
        · by_cases e : q = p
          · rw [e, hTl]; omega
          · rw [hT _ (by omega) (by omega)]; exact i1 q hq
        · by_cases e : q = p
          · rw [e, hTl] at hk
            by_cases g : k = n
            · rw [e, g, hTm]; exact hm4
            · rw [hT _ (by omega) (by omega)]; exact i2 q k hq (by rw [e, hn]; omega)
          · rw [hT _ (by omega) (by omega)] at hk
            have := i1 q hq
            rw [hT _ (by omega) (by omega)]; exact i2 q k hq hk
        · rw [zz_upd]
          by_cases e : q = p
          · rw [if_pos e, e, hTl]
          · rw [if_neg e, hT _ (by omega) (by omega)]; exact p1 q hq
        · rw [zz_upd]
          by_cases e : q = p
          · rw [e, hTl] at hk
            by_cases g : k = n
            · rw [if_pos (by omega), e, g, hTm]
            · rw [if_neg (by omega), hT _ (by omega) (by omega)]; exact p2 q k hq (by rw [e, hn]; omega)
          · rw [hT _ (by omega) (by omega)] at hk
            have := i1 q hq
            rw [if_neg (by omega), hT _ (by omega) (by omega)]; exact p2 q k hq hk
/-- what a plan becomes -/
def zz_bT (S : Nat → Nat) (p n : Nat) (sc : Nat → Nat) : Nat → Nat := fun j => if j = 104 + p then n else if 110 + 20 * p ≤ j ∧ j < 130 + 20 * p then (if j - (110 + 20 * p) < n then sc (j - (110 + 20 * p)) else 0) else S j
theorem zz_bT_l (S : Nat → Nat) (p n : Nat) (sc : Nat → Nat) : zz_bT S p n sc (104 + p) = n := if_pos (by first | rfl | decide)
theorem zz_bT_m (S : Nat → Nat) {p n k : Nat} (sc : Nat → Nat) (hp : p < 6) (hk : k < 20) (hn : k < n) : zz_bT S p n sc (110 + 20 * p + k) = sc k := by
  unfold zz_bT
  rw [if_neg (by omega), if_pos (by omega), if_pos (by omega), show 110 + 20 * p + k - (110 + 20 * p) = k by omega]
theorem zz_bT_o (S : Nat → Nat) {p n j : Nat} (sc : Nat → Nat) (h : j ≠ 104 + p) (h2 : j < 110 + 20 * p ∨ 130 + 20 * p ≤ j) : zz_bT S p n sc j = S j := by
  unfold zz_bT
  rw [if_neg h, if_neg (by omega)]
theorem zz_bT_E (S : Nat → Nat) {p n : Nat} (sc : Nat → Nat) (hp : p < 6) : zz_Er S (zz_bT S p n sc) ∧ zz_Eb S (zz_bT S p n sc) ∧ zz_El S (zz_bT S p n sc) ∧ zz_Ef S (zz_bT S p n sc) :=
  zz_Ex_p (fun k hk => zz_bT_o S sc (by omega) (by omega))
theorem zz_bT_I {p n : Nat} (ip : zz_Ip S) (hp : p < 6) (hn : n ≤ 20) (h : ∀ k, k < n → sc k < 4) : zz_Ip (zz_bT S p n sc) := by
  obtain ⟨i1, i2⟩ := ip
  refine ⟨fun q hq => ?_, fun q k hq hk => ?_⟩
  · by_cases e : q = p
    · rw [e, zz_bT_l]; exact hn
    · rw [zz_bT_o S sc (by omega) (by omega)]; exact i1 q hq
  · by_cases e : q = p
    · subst e
      rw [zz_bT_l] at hk
      rw [zz_bT_m S sc hp (by omega) hk]; exact h k hk
    · rw [zz_bT_o S sc (by omega) (by omega)] at hk
      have := i1 q hq
      rw [zz_bT_o S sc (by omega) (by omega)]; exact i2 q k hq hk
theorem zz_bT_P {p n : Nat} {mo' : Nat → Int32} (ip : zz_Ip S) (pp : zz_Pp S mo le) (hp : p < 6) (hn : n ≤ 20) (h : ∀ k, k < n → mo' (p * 20 + k) = nI (sc k)) (ho : ∀ j, (j < p * 20 ∨ p * 20 + 20 ≤ j) → mo' j = mo j) : zz_Pp (zz_bT S p n sc) mo' (upd le p (nI n)) := by
  obtain ⟨p1, p2⟩ := pp
  refine ⟨fun q hq => ?_, fun q k hq hk => ?_⟩
  · rw [zz_upd]
    by_cases e : q = p
    · rw [if_pos e, e, zz_bT_l]
    · rw [if_neg e, zz_bT_o S sc (by omega) (by omega)]; exact p1 q hq
  · by_cases e : q = p
    · subst e
      rw [zz_bT_l] at hk
      rw [zz_bT_m S sc hp (by omega) hk]; exact h k hk
    · rw [zz_bT_o S sc (by omega) (by omega)] at hk
      have := ip.1 q hq
      rw [zz_bT_o S sc (by omega) (by omega), ho _ (by omega)]; exact p2 q k hq hk
theorem zm_becomes (hK : 100 ≤ K) (hM : zz_Pm S v) {p n : Nat} (hp : p < 6) (hn : n ≤ 20) (h : ∀ k, k < n → scratch k = nI (sc k)) : ∃ v', f_X13_becomes K v scratch (nI p) (nI n) = some (nI n, v') ∧ zz_Pm (zz_bT S p n sc) v' := by
  have hL : ∃ v', f_X13_becomes_L2 scratch (nI p) (nI n) K (nI 0) v = some v' ∧ ∀ j, v' j = if 110 + 20 * p ≤ j ∧ j < 110 + 20 * p + 20 then (if j - (110 + 20 * p) < n then scratch (j - (110 + 20 * p)) else 0) else v j := by
    refine zz_for0 (fun K i (s : Nat → Int32) => f_X13_becomes_L2 scratch (nI p) (nI n) K (nI i) s) 20 (fun i s => ∀ j, s j = if 110 + 20 * p ≤ j ∧ j < 110 + 20 * p + i then (if j - (110 + 20 * p) < n then scratch (j - (110 + 20 * p)) else 0) else v j) (fun o => ∃ v', o = some v' ∧ ∀ j, v' j = if 110 + 20 * p ≤ j ∧ j < 110 + 20 * p + 20 then (if j - (110 + 20 * p) < n then scratch (j - (110 + 20 * p)) else 0) else v j) ?_ ?_ K v (by omega) ?_
    · intro k s hs
      refine ⟨s, ?_, hs⟩
      show f_X13_becomes_L2 scratch (nI p) (nI n) (k + 1) (nI 20) s = _
      rw [f_X13_becomes_L2, if_pos (by decide)]
    · intro k i s hi hs ih
      show ∃ v', f_X13_becomes_L2 scratch (nI p) (nI n) (k + 1) (nI i) s = some v' ∧ _
      rw [f_X13_becomes_L2, zz_l20, if_neg (nI_ge hi (by decide)), zm_at, zz_b, nI_1]
      by_cases e : n ≤ i
      · rw [if_pos (nI_le e (by omega)), zz_g (by omega) (by decide), nI_clamp (by omega)]
        refine ih _ (fun j => ?_)
        rw [zz_upd, hs j]
        by_cases g : j = 110 + 20 * p + i
        · rw [if_pos g, if_pos (by omega), if_neg (by omega)]
        · rw [if_neg g]
          by_cases g2 : 110 + 20 * p ≤ j ∧ j < 110 + 20 * p + i
          · rw [if_pos g2, if_pos (show 110 + 20 * p ≤ j ∧ j < 110 + 20 * p + (i + 1) by omega)]
          · rw [if_neg g2, if_neg (by omega)]
      · rw [if_neg (nI_ge (by omega) (by omega)), zz_g (by omega) (by decide), zz_g (by omega) (by decide), nI_clamp (by omega), nI_clamp (by omega)]
        refine ih _ (fun j => ?_)
        rw [zz_upd, hs j]
        by_cases g : j = 110 + 20 * p + i
        · rw [if_pos g, if_pos (by omega), if_pos (by omega), g, show 110 + 20 * p + i - (110 + 20 * p) = i by omega]
        · rw [if_neg g]
          by_cases g2 : 110 + 20 * p ≤ j ∧ j < 110 + 20 * p + i
          · rw [if_pos g2, if_pos (show 110 + 20 * p ≤ j ∧ j < 110 + 20 * p + (i + 1) by omega)]
          · rw [if_neg g2, if_neg (by omega)]
    · intro j
      rw [if_neg (by omega)]
  obtain ⟨w, hw, hwv⟩ := hL
  refine ⟨upd w (104 + p) (nI n), ?_, fun j hj => ?_⟩
  · rw [f_X13_becomes]
    show (f_X13_becomes_L2 scratch (nI p) (nI n) K (nI 0) v).bind _ = _
    rw [hw, zz_b, zz_l104, nI_add, zz_g (by omega) (by decide), nI_clamp (by omega)]
  · rw [zz_upd]
    unfold zz_bT
    by_cases e : j = 104 + p
    · rw [if_pos e, if_pos e]
    · rw [if_neg e, if_neg e, hwv j]
      by_cases g : 110 + 20 * p ≤ j ∧ j < 110 + 20 * p + 20
      · rw [if_pos g, if_pos (show 110 + 20 * p ≤ j ∧ j < 130 + 20 * p by omega)]
        by_cases g2 : j - (110 + 20 * p) < n
        · rw [if_pos g2, if_pos g2, h _ g2]
        · rw [if_neg g2, if_neg g2]; rfl
      · rw [if_neg g, if_neg (by omega), hM j hj]
theorem zp_empty (hK : 2000 ≤ K) (ip : zz_Ip S) (pp : zz_Pp S mo le) (hM : zz_Pm S v) (x : Int32) :
    (∃ c e r, f_X8_empty le x = some (c, le) ∧ f_X13_empties K 0 v x = some (r, e, v) ∧ (c = -1 ∧ e = 1)) ∨
    (∃ a p v', p < 6 ∧ x = nI p ∧ a < 2 ^ 31 ∧ f_X8_empty le x = some (nI a, upd le p (nI 0)) ∧ f_X13_empties K 0 v x = some (nI a, 0, v') ∧ zz_Ip (zz_bT S p 0 S) ∧ (zz_Er S (zz_bT S p 0 S) ∧ zz_Eb S (zz_bT S p 0 S) ∧ zz_El S (zz_bT S p 0 S) ∧ zz_Ef S (zz_bT S p 0 S)) ∧ zz_Pp (zz_bT S p 0 S) mo (upd le p (nI 0)) ∧ zz_Pm (zz_bT S p 0 S) v') := by
  rcases zz_plan x with ⟨h1, h2⟩ | ⟨p, hp, rfl, h1, h2⟩
  · refine Or.inl ⟨-1, 1, 0, ?_, ?_, rfl, rfl⟩
    · rw [f_X8_empty, h1]; rfl
    · rw [f_X13_empties, h2]; rfl
  · have hl := ip.1 p hp
    have hL : ∃ v', f_X13_empties_L25 (nI p) K (nI 0) v = some v' ∧ ∀ j, v' j = if 110 + 20 * p ≤ j ∧ j < 110 + 20 * p + 20 then 0 else v j := by
      refine zz_for0 (fun K i (s : Nat → Int32) => f_X13_empties_L25 (nI p) K (nI i) s) 20 (fun i s => ∀ j, s j = if 110 + 20 * p ≤ j ∧ j < 110 + 20 * p + i then 0 else v j) (fun o => ∃ v', o = some v' ∧ ∀ j, v' j = if 110 + 20 * p ≤ j ∧ j < 110 + 20 * p + 20 then 0 else v j) ?_ ?_ K v (by omega) ?_
      · intro k s hs
        refine ⟨s, ?_, hs⟩
        show f_X13_empties_L25 (nI p) (k + 1) (nI 20) s = _
        rw [f_X13_empties_L25, if_pos (by decide)]
      · intro k i s hi hs ih
        show ∃ v', f_X13_empties_L25 (nI p) (k + 1) (nI i) s = some v' ∧ _
        rw [f_X13_empties_L25, zz_l20, if_neg (nI_ge hi (by decide)), zm_at, zz_b, zz_g (by omega) (by decide), nI_clamp (by omega), nI_1]
        refine ih _ (fun j => ?_)
        rw [zz_upd, hs j]
        by_cases g : j = 110 + 20 * p + i
        · rw [if_pos g, if_pos (by omega)]
        · rw [if_neg g]
          by_cases g2 : 110 + 20 * p ≤ j ∧ j < 110 + 20 * p + i
          · rw [if_pos g2, if_pos (by omega)]
          · rw [if_neg g2, if_neg (by omega)]
      · intro j
        rw [if_neg (by omega)]
    obtain ⟨w, hw, hwv⟩ := hL
    refine Or.inr ⟨S (104 + p), p, upd w (104 + p) 0, hp, rfl, by omega, ?_, ?_, zz_bT_I ip hp (by omega) (fun k hk => by omega), zz_bT_E S S hp, zz_bT_P ip pp hp (by omega) (fun k hk => by omega) (fun j _ => rfl), fun j hj => ?_⟩
    · rw [f_X8_empty, h1, zz_b, if_neg (by decide), zz_g hp (by decide), zz_g hp (by decide), nI_clamp (by omega), pp.1 p hp]
      rfl
    · rw [f_X13_empties, h2, zz_b, if_neg (by decide), zz_l104, nI_add, zz_g (by omega) (by decide)]
      show (f_X13_empties_L25 (nI p) K (nI 0) v).bind _ = _
      rw [hw, zz_b, zz_g (by omega) (by decide), nI_clamp (by omega), hM _ (by omega)]
    · rw [zz_upd]
      unfold zz_bT
      by_cases e : j = 104 + p
      · rw [if_pos e, if_pos e]; rfl
      · rw [if_neg e, if_neg e, hwv j]
        by_cases g : 110 + 20 * p ≤ j ∧ j < 110 + 20 * p + 20
        · rw [if_pos g, if_pos (by omega), if_neg (by omega)]; rfl
        · rw [if_neg g, if_neg (by omega), hM j hj]
end ZP
