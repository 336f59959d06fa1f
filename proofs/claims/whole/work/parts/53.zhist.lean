-- history on both sides
section ZH
variable {S : Nat → Nat} {T : Nat → Nat → Nat} {B K fr n : Nat} {sl : Nat → mm_MV} {past v before : Nat → Int32} {M : mm_MV}
def zz_H (B : Nat) (sl : Nat → mm_MV) (fr n : Nat) (past : Nat → Int32) (T : Nat → Nat → Nat) : Prop := fr < 9 ∧ n ≤ 8 ∧ ∀ i, i < n → zz_Inv B (T i) ∧ zz_Pc (T i) (sl ((fr + 9 - n + i) % 9)) ∧ ∀ k, k < 238 → past (i * 238 + k) = nI (T i k)
def zz_Q (B : Nat) (M : mm_MV) (sl : Nat → mm_MV) (f m ch : Int32) (v past : Nat → Int32) : Prop := ∃ (S : Nat → Nat) (T : Nat → Nat → Nat) (fr n : Nat), zz_Inv B S ∧ zz_Pc S M ∧ zz_Pm S v ∧ f = nI fr ∧ m = nI n ∧ ch = nI n ∧ zz_H B sl fr n past T
theorem zz_H_m {C : Nat} (hB : B ≤ C) (h : zz_H B sl fr n past T) : zz_H C sl fr n past T := ⟨h.1, h.2.1, fun i hi => ⟨zz_Inv_m hB (h.2.2 i hi).1, (h.2.2 i hi).2⟩⟩
theorem zz_Q_m {C : Nat} {f m ch : Int32} (hB : B ≤ C) (h : zz_Q B M sl f m ch v past) : zz_Q C M sl f m ch v past := by
  obtain ⟨S, T, fr, n, h1, h2, h3, h4, h5, h6, h7⟩ := h
  exact ⟨S, T, fr, n, zz_Inv_m hB h1, h2, h3, h4, h5, h6, zz_H_m hB h7⟩
theorem zm_lays (hK : 300 ≤ K) (to fm : Nat → Int32) : ∃ w, f_X13_lays K to fm = some w ∧ ∀ j, w j = if j < 238 then fm j else to j := by
  have hL : ∃ w, f_X13_lays_L2 fm K (nI 0) to = some w ∧ ∀ j, w j = if j < 238 then fm j else to j := by
    refine zz_for0 (fun K i (s : Nat → Int32) => f_X13_lays_L2 fm K (nI i) s) 238 (fun i s => ∀ j, s j = if j < i then fm j else to j) (fun o => ∃ w, o = some w ∧ ∀ j, w j = if j < 238 then fm j else to j) ?_ ?_ K to (by omega) (fun j => by rw [if_neg (by omega)])
    · intro k s hs
      refine ⟨s, ?_, hs⟩
      show f_X13_lays_L2 fm (k + 1) (nI 238) s = _
      rw [f_X13_lays_L2, if_pos (by decide)]
    · intro k i s hi hs ih
      show ∃ w, f_X13_lays_L2 fm (k + 1) (nI i) s = some w ∧ _
      rw [f_X13_lays_L2, zz_l238, if_neg (nI_ge hi (by decide)), zz_g hi (by decide), zz_g hi (by decide), nI_clamp (by omega), nI_1]
      refine ih _ (fun j => ?_)
      rw [zz_upd, hs j]
      by_cases e : j = i
      · rw [if_pos e, if_pos (by omega), e]
      · rw [if_neg e]
        by_cases g : j < i
        · rw [if_pos g, if_pos (by omega)]
        · rw [if_neg g, if_neg (by omega)]
  obtain ⟨w, hw, hw2⟩ := hL
  refine ⟨w, ?_, hw2⟩
  rw [f_X13_lays]
  show (f_X13_lays_L2 fm K (nI 0) to).bind _ = _
  rw [hw]
  rfl
theorem zm_begins (hK : 300 ≤ K) (hM : zz_Pm S v) : ∃ w, f_X13_begins K v before = some (0, w) ∧ zz_Pm S w := by
  obtain ⟨w, h1, h2⟩ := zm_lays hK before v
  refine ⟨w, ?_, fun k hk => ?_⟩
  · rw [f_X13_begins, h1]
    rfl
  · rw [h2 k, if_pos hk, hM k hk]
theorem zm_ends_f (hK : 300 ≤ K) (hM : zz_Pm S before) {t : Int32} (ht : ¬ t = 0) (ch x : Int32) : ∃ v', f_X13_ends K t ch v before past x = some (0, ch, v', past) ∧ zz_Pm S v' := by
  obtain ⟨w, h1, h2⟩ := zm_lays hK v before
  refine ⟨w, ?_, fun k hk => ?_⟩
  · rw [f_X13_ends, if_neg ht, h1]
    rfl
  · rw [h2 k, if_pos hk, hM k hk]
theorem zm_ends72 (hK : 300 ≤ K) {m : Nat} (hm : m < 8) (past : Nat → Int32) : ∃ w, f_X13_ends_L72 (nI m) before K 0 past = some w ∧ ∀ j, w j = if m * 238 ≤ j ∧ j < m * 238 + 238 then before (j - m * 238) else past j := by
  refine zz_for0 (fun K i (s : Nat → Int32) => f_X13_ends_L72 (nI m) before K (nI i) s) 238 (fun i s => ∀ j, s j = if m * 238 ≤ j ∧ j < m * 238 + i then before (j - m * 238) else past j) (fun o => ∃ w, o = some w ∧ ∀ j, w j = if m * 238 ≤ j ∧ j < m * 238 + 238 then before (j - m * 238) else past j) ?_ ?_ K past (by omega) (fun j => by rw [if_neg (by omega)])
  · intro k s hs
    refine ⟨s, ?_, hs⟩
    show f_X13_ends_L72 (nI m) before (k + 1) (nI 238) s = _
    rw [f_X13_ends_L72, if_pos (by decide)]
  · intro k i s hi hs ih
    show ∃ w, f_X13_ends_L72 (nI m) before (k + 1) (nI i) s = some w ∧ _
    rw [f_X13_ends_L72, zz_l238, if_neg (nI_ge hi (by decide)), zz_g hi (by decide), pk_mul, nI_add, zz_g (by omega) (by decide), nI_clamp (by omega), nI_clamp (by omega), nI_1]
    refine ih _ (fun j => ?_)
    rw [zz_upd, hs j]
    by_cases e : j = m * 238 + i
    · rw [if_pos e, if_pos (by omega), show j - m * 238 = i by omega]
    · rw [if_neg e]
      by_cases g : m * 238 ≤ j ∧ j < m * 238 + i
      · rw [if_pos g, if_pos (by omega)]
      · rw [if_neg g, if_neg (by omega)]
theorem zm_ends31 (hK : 2000 ≤ K) (past : Nat → Int32) : ∃ w, f_X13_ends_L31 K 0 past = some w ∧ ∀ j, w j = if j < 1666 then past (j + 238) else past j := by
  refine zz_for0 (fun K i (s : Nat → Int32) => f_X13_ends_L31 K (nI i) s) 1666 (fun i s => ∀ j, s j = if j < i then past (j + 238) else past j) (fun o => ∃ w, o = some w ∧ ∀ j, w j = if j < 1666 then past (j + 238) else past j) ?_ ?_ K past (by omega) (fun j => by rw [if_neg (by omega)])
  · intro k s hs
    refine ⟨s, ?_, hs⟩
    show f_X13_ends_L31 (k + 1) (nI 1666) s = _
    rw [f_X13_ends_L31, if_pos (by decide)]
  · intro k i s hi hs ih
    show ∃ w, f_X13_ends_L31 (k + 1) (nI i) s = some w ∧ _
    rw [f_X13_ends_L31, zz_l1666, if_neg (nI_ge hi (by decide)), zz_l238, nI_add, zz_g (by omega) (by decide), zz_g (by omega) (by decide), nI_clamp (by omega), nI_clamp (by omega), nI_1]
    refine ih _ (fun j => ?_)
    rw [zz_upd, hs j, hs (i + 238), if_neg (show ¬ i + 238 < i by omega)]
    by_cases e : j = i
    · rw [if_pos e, if_pos (by omega), e]
    · rw [if_neg e]
      by_cases g : j < i
      · rw [if_pos g, if_pos (by omega)]
      · rw [if_neg g, if_neg (by omega)]
def zz_nn1 (n : Nat) : Nat := if 8 < n + 1 then 8 else n + 1
theorem zc_confirm (hf : fr < 9) (hn : n ≤ 8) : f_X4_confirm (nI fr) (nI n) = some (nI ((fr + 1) % 9), nI (zz_nn1 n)) := by
  rw [f_X4_confirm, nI_1, nI_1, zz_l9, pk_rem (by omega) (by decide) (by decide), zz_l8]
  unfold zz_nn1
  by_cases e : 8 < n + 1
  · rw [if_pos (nI_lt e (by omega)), if_pos e]
  · rw [if_neg (nI_nlt (by omega) (by omega)), if_neg e]
theorem zm_ends_y (hK : 2000 ≤ K) (hi : zz_Inv B S) (hc : zz_Pc S (sl fr)) (hM : zz_Pm S before) (h : zz_H B sl fr n past T) (x : Int32) : ∃ past' T', f_X13_ends K 0 (nI n) v before past x = some (x, nI (zz_nn1 n), v, past') ∧ zz_H B sl ((fr + 1) % 9) (zz_nn1 n) past' T' := by
  obtain ⟨h1, h2, h3⟩ := h
  by_cases e : n = 8
  · subst e
    obtain ⟨w, hw, hw2⟩ := zm_ends31 hK past
    obtain ⟨z, hz, hz2⟩ := zm_ends72 (K := K) (before := before) (by omega) (m := 7) (by decide) w
    refine ⟨z, fun i => if i = 7 then S else T (i + 1), ?_, by omega, by decide, fun i hi2 => ?_⟩
    · rw [f_X13_ends, if_pos (by first | rfl | decide), if_pos (by first | rfl | decide), hw, zz_b, show (nI 8 - 1 : Int32) = nI 7 by decide, hz]
      rfl
    · have hi3 : i < 8 := hi2
      by_cases g : i = 7
      · refine ⟨?_, ?_, fun k hk => ?_⟩
        · show zz_Inv B (if i = 7 then S else T (i + 1))
          rw [if_pos g]; exact hi
        · show zz_Pc (if i = 7 then S else T (i + 1)) _
          rw [if_pos g, show ((fr + 1) % 9 + 9 - zz_nn1 8 + i) % 9 = fr by show ((fr + 1) % 9 + 9 - 8 + i) % 9 = fr; omega]; exact hc
        · show z (i * 238 + k) = nI ((if i = 7 then S else T (i + 1)) k)
          rw [if_pos g, hz2, if_pos (by omega), show i * 238 + k - 7 * 238 = k by omega]; exact hM k hk
      · obtain ⟨q1, q2, q3⟩ := h3 (i + 1) (by omega)
        refine ⟨?_, ?_, fun k hk => ?_⟩
        · show zz_Inv B (if i = 7 then S else T (i + 1))
          rw [if_neg g]; exact q1
        · show zz_Pc (if i = 7 then S else T (i + 1)) _
          rw [if_neg g, show ((fr + 1) % 9 + 9 - zz_nn1 8 + i) % 9 = (fr + 9 - 8 + (i + 1)) % 9 by show ((fr + 1) % 9 + 9 - 8 + i) % 9 = (fr + 9 - 8 + (i + 1)) % 9; omega]; exact q2
        · show z (i * 238 + k) = nI ((if i = 7 then S else T (i + 1)) k)
          rw [if_neg g, hz2, if_neg (by omega), hw2, if_pos (by omega), show i * 238 + k + 238 = (i + 1) * 238 + k by omega]; exact q3 k hk
  · obtain ⟨z, hz, hz2⟩ := zm_ends72 (K := K) (before := before) (by omega) (m := n) (by omega) past
    have hnn : zz_nn1 n = n + 1 := if_neg (by omega)
    refine ⟨z, fun i => if i = n then S else T i, ?_, by omega, by omega, fun i hi2 => ?_⟩
    · rw [f_X13_ends, if_pos (by first | rfl | decide), zz_l8, if_neg (zz_ne e (by omega) (by decide)), hz, zz_b, nI_1, hnn]
    · rw [hnn] at hi2 ⊢
      by_cases g : i = n
      · refine ⟨?_, ?_, fun k hk => ?_⟩
        · show zz_Inv B (if i = n then S else T i)
          rw [if_pos g]; exact hi
        · show zz_Pc (if i = n then S else T i) _
          rw [if_pos g, show ((fr + 1) % 9 + 9 - (n + 1) + i) % 9 = fr by omega]; exact hc
        · show z (i * 238 + k) = nI ((if i = n then S else T i) k)
          rw [if_pos g, hz2, g, if_pos (by omega), show n * 238 + k - n * 238 = k by omega]; exact hM k hk
      · obtain ⟨q1, q2, q3⟩ := h3 i (by omega)
        refine ⟨?_, ?_, fun k hk => ?_⟩
        · show zz_Inv B (if i = n then S else T i)
          rw [if_neg g]; exact q1
        · show zz_Pc (if i = n then S else T i) _
          rw [if_neg g, show ((fr + 1) % 9 + 9 - (n + 1) + i) % 9 = (fr + 9 - n + i) % 9 by omega]; exact q2
        · show z (i * 238 + k) = nI ((if i = n then S else T i) k)
          rw [if_neg g, hz2, if_neg (by omega)]; exact q3 k hk
theorem zc_copy (hi : zz_Inv B S) (hc : zz_Pc S M) (d1 d2 d3 d4 d5 d6 d7 : Nat → Int32) : ∃ N, f_X6_copyFrom d1 d2 d3 d4 d5 d6 d7 M.1 M.2.1 M.2.2.1 M.2.2.2.1 M.2.2.2.2.1 M.2.2.2.2.2.1 M.2.2.2.2.2.2.1 M.2.2.2.2.2.2.2.1 M.2.2.2.2.2.2.2.2.1 M.2.2.2.2.2.2.2.2.2.1 M.2.2.2.2.2.2.2.2.2.2.1 M.2.2.2.2.2.2.2.2.2.2.2.1 M.2.2.2.2.2.2.2.2.2.2.2.2.1 M.2.2.2.2.2.2.2.2.2.2.2.2.2.1 M.2.2.2.2.2.2.2.2.2.2.2.2.2.2.1 M.2.2.2.2.2.2.2.2.2.2.2.2.2.2.2 = some N ∧ zz_Pc S N := by
  obtain ⟨i1, i2, i3, i4, i5, i6⟩ := hi
  obtain ⟨c1, c2, c3, c4, c5⟩ := hc
  have cp : ∀ {f g : Nat → Int32} {m j : Nat}, j < m → va_cpy f g 0 0 m j = f j := by
    intro f g m j hj
    rw [pk_cpy_in (Nat.zero_le _) (by omega), Nat.sub_zero, Nat.zero_add]
  refine ⟨_, rfl, ⟨fun c hc => ?_, c1.2⟩, ⟨fun b hb => ?_, fun b hb => ?_, fun b hb => ?_, c2.2.2.2⟩, ⟨fun p hp => ?_, fun p k hp hk => ?_⟩, ⟨c4.1, fun l hl => ?_⟩, c5⟩
  · exact (cp hc).trans (c1.1 c hc)
  · exact (cp (zz_Ib_4 i2 hb)).trans (c2.1 b hb)
  · exact (cp (zz_Ib_4 i2 hb)).trans (c2.2.1 b hb)
  · exact (cp (zz_Ib_4 i2 hb)).trans (c2.2.2.1 b hb)
  · exact (cp hp).trans (c3.1 p hp)
  · have := i4.1 p hp
    exact (cp (by omega)).trans (c3.2 p k hp hk)
  · have := i5.1
    exact (cp (by omega)).trans (c4.2 l hl)
end ZH
