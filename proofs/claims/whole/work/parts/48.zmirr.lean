-- mirrored and turned plans on both sides
section ZQ
variable {S T : Nat → Nat} {B K : Nat} {mo le : Nat → Int32} {v scratch : Nat → Int32} {sc : Nat → Nat}
theorem zc_mirrL {p t n : Nat} (hp : p < 6) (ht : t < 6) (hn : n ≤ 20) (hK : 100 ≤ K) (h : ∀ k, k < n → mo (p * 20 + k) = nI (sc k)) (h4 : ∀ k, k < n → sc k < 4) : ∃ mo', f_X8_putMirrored_L26 (nI p) (nI t) (nI n) K (nI 0) mo = some mo' ∧ (∀ k, k < n → mo' (t * 20 + k) = nI (zz_mi (sc k))) ∧ ∀ j, (j < t * 20 ∨ t * 20 + 20 ≤ j) → mo' j = mo j := by
  refine zz_for0 (fun K i (s : Nat → Int32) => f_X8_putMirrored_L26 (nI p) (nI t) (nI n) K (nI i) s) n (fun i s => (∀ k, k < i → s (t * 20 + k) = nI (zz_mi (sc k))) ∧ ∀ j, (j < t * 20 ∨ t * 20 + i ≤ j) → s j = mo j) (fun o => ∃ mo', o = some mo' ∧ (∀ k, k < n → mo' (t * 20 + k) = nI (zz_mi (sc k))) ∧ ∀ j, (j < t * 20 ∨ t * 20 + 20 ≤ j) → mo' j = mo j) ?_ ?_ K mo (by omega) ⟨fun k hk => by omega, fun _ _ => rfl⟩
  · intro k s hs
    refine ⟨s, ?_, hs.1, fun j hj => hs.2 j (by omega)⟩
    show f_X8_putMirrored_L26 (nI p) (nI t) (nI n) (k + 1) (nI n) s = _
    rw [f_X8_putMirrored_L26, if_pos (nI_le (Nat.le_refl _) (by omega))]
  · intro k i s hi hs ih
    show ∃ mo', f_X8_putMirrored_L26 (nI p) (nI t) (nI n) (k + 1) (nI i) s = some mo' ∧ _
    have hr : s (p * 20 + i) = nI (sc i) := by rw [hs.2 _ (by omega), h i hi]
    rw [f_X8_putMirrored_L26, if_neg (nI_ge hi (by omega)), zc_moveIn hp (by omega) hr, zz_b, zc_mirrored _ (h4 i hi), zz_b, zc_setMove ht (by omega), zz_b, nI_1]
    refine ih _ ⟨fun k hk => ?_, fun j hj => ?_⟩
    · rw [zz_upd]
      by_cases e : k = i
      · rw [if_pos (by omega), e]
      · rw [if_neg (by omega)]; exact hs.1 k (by omega)
    · rw [zz_upd, if_neg (by omega)]; exact hs.2 j (by omega)
theorem zc_backL {p t n : Nat} (hp : p < 6) (ht : t < 6) (hn : n ≤ 20) (hK : 100 ≤ K) (h : ∀ k, k < n → mo (p * 20 + k) = nI (sc k)) (h4 : ∀ k, k < n → sc k < 4) : ∃ mo', f_X8_putWayBack_L26 (nI p) (nI t) (nI n) K (nI 0) mo = some mo' ∧ (∀ k, k < n → mo' (t * 20 + k) = nI (zz_opp (sc (n - 1 - k)))) ∧ ∀ j, (j < t * 20 ∨ t * 20 + 20 ≤ j) → mo' j = mo j := by
  refine zz_for0 (fun K i (s : Nat → Int32) => f_X8_putWayBack_L26 (nI p) (nI t) (nI n) K (nI i) s) ((n + 1) / 2) (fun i s => (∀ k, k < n → (k < i ∨ n ≤ k + i) → s (t * 20 + k) = nI (zz_opp (sc (n - 1 - k)))) ∧ ∀ j, (j < t * 20 + i ∧ t * 20 ≤ j) ∨ (t * 20 + n ≤ j + i ∧ j < t * 20 + n) ∨ s j = mo j) (fun o => ∃ mo', o = some mo' ∧ (∀ k, k < n → mo' (t * 20 + k) = nI (zz_opp (sc (n - 1 - k)))) ∧ ∀ j, (j < t * 20 ∨ t * 20 + 20 ≤ j) → mo' j = mo j) ?_ ?_ K mo (by omega) ⟨fun k hk => by omega, fun j => Or.inr (Or.inr rfl)⟩
  · intro k s hs
    refine ⟨s, ?_, fun k hk => hs.1 k hk (by omega), fun j hj => ?_⟩
    · show f_X8_putWayBack_L26 (nI p) (nI t) (nI n) (k + 1) (nI ((n + 1) / 2)) s = _
      rw [f_X8_putWayBack_L26, pk_sub (by omega), if_pos (nI_le (by omega) (by omega))]
    · rcases hs.2 j with g | g | g
      · omega
      · omega
      · exact g
  · intro k i s hi hs ih
    show ∃ mo', f_X8_putWayBack_L26 (nI p) (nI t) (nI n) (k + 1) (nI i) s = some mo' ∧ _
    have hr : s (p * 20 + i) = nI (sc i) := by
      rcases hs.2 (p * 20 + i) with g | g | g
      · omega
      · omega
      · rw [g, h i (by omega)]
    have hq : s (p * 20 + (n - 1 - i)) = nI (sc (n - 1 - i)) := by
      rcases hs.2 (p * 20 + (n - 1 - i)) with g | g | g
      · omega
      · omega
      · rw [g, h _ (by omega)]
    rw [f_X8_putWayBack_L26, pk_sub (by omega), if_neg (nI_ge (by omega) (by omega)), zc_moveIn hp (by omega) hr, zz_b, zz_l1, pk_sub (by omega), pk_sub (by omega), zc_moveIn hp (by omega) hq, zz_b, zc_opposite _ (h4 _ (by omega)), zz_b, zc_setMove ht (by omega), zz_b, zc_opposite _ (h4 i (by omega)), zz_b, zc_setMove ht (by omega), zz_b, nI_add]
    refine ih _ ⟨fun k hk hk2 => ?_, fun j => ?_⟩
    · rw [zz_upd, zz_upd]
      by_cases e : k = n - 1 - i
      · rw [if_pos (by omega), e, show n - 1 - (n - 1 - i) = i by omega]
      · rw [if_neg (by omega)]
        by_cases g : k = i
        · rw [if_pos (by omega), g]
        · rw [if_neg (by omega)]; exact hs.1 k hk (by omega)
    · rw [zz_upd, zz_upd]
      by_cases e : j = t * 20 + (n - 1 - i)
      · exact Or.inr (Or.inl (by omega))
      · by_cases g : j = t * 20 + i
        · exact Or.inl (by omega)
        · rw [if_neg e, if_neg g]
          rcases hs.2 j with q | q | q
          · exact Or.inl (by omega)
          · exact Or.inr (Or.inl (by omega))
          · exact Or.inr (Or.inr q)
theorem zm_mirrL {p n : Nat} (hp : p < 6) (hn : n ≤ 20) (hK : 100 ≤ K) (hM : zz_Pm S v) (h4 : ∀ k, k < n → S (110 + 20 * p + k) < 4) : ∃ w, f_X13_mirrors_L33 v (nI p) (nI n) K (nI 0) scratch = some w ∧ ∀ k, k < n → w k = nI (zz_mi (S (110 + 20 * p + k))) := by
  refine zz_for0 (fun K i (s : Nat → Int32) => f_X13_mirrors_L33 v (nI p) (nI n) K (nI i) s) n (fun i s => ∀ k, k < i → s k = nI (zz_mi (S (110 + 20 * p + k)))) (fun o => ∃ w, o = some w ∧ ∀ k, k < n → w k = nI (zz_mi (S (110 + 20 * p + k)))) ?_ ?_ K scratch (by omega) (fun k hk => by omega)
  · intro k s hs
    refine ⟨s, ?_, hs⟩
    show f_X13_mirrors_L33 v (nI p) (nI n) (k + 1) (nI n) s = _
    rw [f_X13_mirrors_L33, if_pos (nI_le (Nat.le_refl _) (by omega))]
  · intro k i s hi hs ih
    show ∃ w, f_X13_mirrors_L33 v (nI p) (nI n) (k + 1) (nI i) s = some w ∧ _
    rw [f_X13_mirrors_L33, if_neg (nI_ge hi (by omega)), zm_at, zz_b, zz_g (by omega) (by decide), nI_clamp (by omega), hM _ (by omega), zm_mirrored _ (h4 i hi), zz_b, zz_g (by omega) (by decide), nI_clamp (by omega), nI_1]
    refine ih _ (fun k hk => ?_)
    rw [zz_upd]
    by_cases e : k = i
    · rw [if_pos e, e]
    · rw [if_neg e]; exact hs k (by omega)
theorem zm_turnL {p n : Nat} (hp : p < 6) (hn : n ≤ 20) (hK : 100 ≤ K) (hM : zz_Pm S v) (h4 : ∀ k, k < n → S (110 + 20 * p + k) < 4) : ∃ w, f_X13_turns_L33 v (nI p) (nI n) K (nI 0) scratch = some w ∧ ∀ k, k < n → w k = nI (zz_opp (S (110 + 20 * p + (n - 1 - k)))) := by
  refine zz_for0 (fun K i (s : Nat → Int32) => f_X13_turns_L33 v (nI p) (nI n) K (nI i) s) n (fun i s => ∀ k, k < i → s k = nI (zz_opp (S (110 + 20 * p + (n - 1 - k))))) (fun o => ∃ w, o = some w ∧ ∀ k, k < n → w k = nI (zz_opp (S (110 + 20 * p + (n - 1 - k))))) ?_ ?_ K scratch (by omega) (fun k hk => by omega)
  · intro k s hs
    refine ⟨s, ?_, hs⟩
    show f_X13_turns_L33 v (nI p) (nI n) (k + 1) (nI n) s = _
    rw [f_X13_turns_L33, if_pos (nI_le (Nat.le_refl _) (by omega))]
  · intro k i s hi hs ih
    show ∃ w, f_X13_turns_L33 v (nI p) (nI n) (k + 1) (nI i) s = some w ∧ _
    have e1 : nI n - 1 - nI i = nI (n - 1 - i) := by rw [zz_l1, pk_sub (by omega), pk_sub (by omega)]
    rw [f_X13_turns_L33, if_neg (nI_ge hi (by omega)), e1, zm_at, zz_b, zz_g (by omega) (by decide), zz_g (by omega) (by decide), nI_clamp (by omega), nI_clamp (by omega), hM _ (by omega), zz_xor _ (h4 _ (by omega)), nI_1]
    refine ih _ (fun k hk => ?_)
    rw [zz_upd]
    by_cases e : k = i
    · rw [if_pos e, e]
    · rw [if_neg e]; exact hs k (by omega)
theorem zp_mirror (hK : 2000 ≤ K) (ip : zz_Ip S) (pp : zz_Pp S mo le) (hM : zz_Pm S v) (x y : Int32) :
    (∃ c e r, f_X8_putMirrored K mo le x y = some (c, mo, le) ∧ f_X13_mirrors K 0 v scratch x y = some (r, e, v, scratch) ∧ (c = -1 ∧ e = 1)) ∨
    (∃ a T mo' le' v' sc', a < 2 ^ 31 ∧ f_X8_putMirrored K mo le x y = some (nI a, mo', le') ∧ f_X13_mirrors K 0 v scratch x y = some (nI a, 0, v', sc') ∧ zz_Ip T ∧ (zz_Er S T ∧ zz_Eb S T ∧ zz_El S T ∧ zz_Ef S T) ∧ zz_Pp T mo' le' ∧ zz_Pm T v') := by
  rcases zz_plan x with ⟨h1, h2⟩ | ⟨p, hp, rfl, h1, h2⟩
  · refine Or.inl ⟨-1, 1, 0, ?_, ?_, rfl, rfl⟩
    · rw [f_X8_putMirrored, h1]; rfl
    · rw [f_X13_mirrors, h2]; rfl
  · rcases zz_plan y with ⟨g1, g2⟩ | ⟨t, ht, rfl, g1, g2⟩
    · refine Or.inl ⟨-1, 1, 0, ?_, ?_, rfl, rfl⟩
      · rw [f_X8_putMirrored, h1, zz_b, if_neg (by decide), g1]; rfl
      · rw [f_X13_mirrors, h2, zz_b, if_neg (by decide), g2]; rfl
    · have hl := ip.1 p hp
      have h4 : ∀ k, k < S (104 + p) → S (110 + 20 * p + k) < 4 := fun k hk => ip.2 p k hp hk
      obtain ⟨mo', hc, hc2, hc3⟩ := zc_mirrL (mo := mo) (K := K) (sc := fun k => S (110 + 20 * p + k)) hp ht hl (by omega) (fun k hk => pp.2 p k hp hk) h4
      obtain ⟨w, hw, hw2⟩ := zm_mirrL (scratch := scratch) (K := K) hp hl (by omega) hM h4
      obtain ⟨v', hv, hv2⟩ := zm_becomes (K := K) (scratch := w) (sc := fun k => zz_mi (S (110 + 20 * p + k))) (by omega) hM ht hl hw2
      refine Or.inr ⟨S (104 + p), _, mo', upd le t (nI (S (104 + p))), v', w, by omega, ?_, ?_, zz_bT_I ip ht hl (fun k hk => zz_mi_lt _ (h4 k hk)), zz_bT_E S _ ht, zz_bT_P ip pp ht hl hc2 hc3, hv2⟩
      · rw [f_X8_putMirrored, h1, zz_b, if_neg (by decide), g1, zz_b, if_neg (by decide), zz_g hp (by decide), nI_clamp (by omega), pp.1 p hp]
        show (f_X8_putMirrored_L26 (nI p) (nI t) (nI (S (104 + p))) K (nI 0) mo).bind _ = _
        rw [hc, zz_b, zz_g ht (by decide), nI_clamp (by omega)]
      · rw [f_X13_mirrors, h2, zz_b, if_neg (by decide), g2, zz_b, if_neg (by decide), zz_l104, nI_add, zz_g (by omega) (by decide), nI_clamp (by omega), hM _ (by omega)]
        show (f_X13_mirrors_L33 v (nI p) (nI (S (104 + p))) K (nI 0) scratch).bind _ = _
        rw [hw, zz_b, hv]
        rfl
theorem zp_back (hK : 2000 ≤ K) (ip : zz_Ip S) (pp : zz_Pp S mo le) (hM : zz_Pm S v) (x y : Int32) :
    (∃ c e r, f_X8_putWayBack K mo le x y = some (c, mo, le) ∧ f_X13_turns K 0 v scratch x y = some (r, e, v, scratch) ∧ (c = -1 ∧ e = 1)) ∨
    (∃ a T mo' le' v' sc', a < 2 ^ 31 ∧ f_X8_putWayBack K mo le x y = some (nI a, mo', le') ∧ f_X13_turns K 0 v scratch x y = some (nI a, 0, v', sc') ∧ zz_Ip T ∧ (zz_Er S T ∧ zz_Eb S T ∧ zz_El S T ∧ zz_Ef S T) ∧ zz_Pp T mo' le' ∧ zz_Pm T v') := by
  rcases zz_plan x with ⟨h1, h2⟩ | ⟨p, hp, rfl, h1, h2⟩
  · refine Or.inl ⟨-1, 1, 0, ?_, ?_, rfl, rfl⟩
    · rw [f_X8_putWayBack, h1]; rfl
    · rw [f_X13_turns, h2]; rfl
  · rcases zz_plan y with ⟨g1, g2⟩ | ⟨t, ht, rfl, g1, g2⟩
    · refine Or.inl ⟨-1, 1, 0, ?_, ?_, rfl, rfl⟩
      · rw [f_X8_putWayBack, h1, zz_b, if_neg (by decide), g1]; rfl
      · rw [f_X13_turns, h2, zz_b, if_neg (by decide), g2]; rfl
    · have hl := ip.1 p hp
      have h4 : ∀ k, k < S (104 + p) → S (110 + 20 * p + k) < 4 := fun k hk => ip.2 p k hp hk
      obtain ⟨mo', hc, hc2, hc3⟩ := zc_backL (mo := mo) (K := K) (sc := fun k => S (110 + 20 * p + k)) hp ht hl (by omega) (fun k hk => pp.2 p k hp hk) h4
      obtain ⟨w, hw, hw2⟩ := zm_turnL (scratch := scratch) (K := K) hp hl (by omega) hM h4
      obtain ⟨v', hv, hv2⟩ := zm_becomes (K := K) (scratch := w) (sc := fun k => zz_opp (S (110 + 20 * p + (S (104 + p) - 1 - k)))) (by omega) hM ht hl hw2
      refine Or.inr ⟨S (104 + p), _, mo', upd le t (nI (S (104 + p))), v', w, by omega, ?_, ?_, zz_bT_I ip ht hl (fun k hk => zz_opp_lt _ (h4 _ (by omega))), zz_bT_E S _ ht, zz_bT_P ip pp ht hl hc2 hc3, hv2⟩
      · rw [f_X8_putWayBack, h1, zz_b, if_neg (by decide), g1, zz_b, if_neg (by decide), zz_g hp (by decide), nI_clamp (by omega), pp.1 p hp]
        show (f_X8_putWayBack_L26 (nI p) (nI t) (nI (S (104 + p))) K (nI 0) mo).bind _ = _
        rw [hc, zz_b, zz_g ht (by decide), nI_clamp (by omega)]
      · rw [f_X13_turns, h2, zz_b, if_neg (by decide), g2, zz_b, if_neg (by decide), zz_l104, nI_add, zz_g (by omega) (by decide), nI_clamp (by omega), hM _ (by omega)]
        show (f_X13_turns_L33 v (nI p) (nI (S (104 + p))) K (nI 0) scratch).bind _ = _
        rw [hw, zz_b, hv]
        rfl
end ZQ
