-- the reading of a text on both sides
section ZRD
variable {K n : Nat} {t : Nat → Nat} {sg tx wd wa v far scratch : Nat → Int32}
/-- where the command at p ends -/
def zz_nx (t : Nat → Nat) (n p : Nat) : Nat := (zz_kd t n p).elim p (fun k => zz_en t n p k)
/-- where command i begins -/
def zz_sf (t : Nat → Nat) (n : Nat) : Nat → Nat
  | 0 => 0
  | i + 1 => zz_nx t n (zz_sf t n i) + 1
theorem zz_nx_y {p k : Nat} (h : zz_kd t n p = some k) : zz_nx t n p = zz_en t n p k := by unfold zz_nx; rw [h]; rfl
/-- command i ends before a mark -/
def zz_ct (t : Nat → Nat) (n i : Nat) : Prop := zz_nx t n (zz_sf t n i) < n ∧ t (zz_nx t n (zz_sf t n i)) = 59
/-- the first c commands, as the reader keeps them -/
def zz_rdd (t : Nat → Nat) (n : Nat) (kinds starts : Nat → Int32) (c : Nat) : Prop := ∀ j, j < c → ∃ k, zz_kd t n (zz_sf t n j) = some k ∧ kinds j = nI k ∧ starts j = nI (zz_sf t n j)
theorem zz_rdd_s {kinds starts : Nat → Int32} {i k : Nat} (h : zz_rdd t n kinds starts i) (hk : zz_kd t n (zz_sf t n i) = some k) : zz_rdd t n (upd kinds i (nI k)) (upd starts i (nI (zz_sf t n i))) (i + 1) := by
  intro j hj
  by_cases e : j = i
  · subst e
    exact ⟨k, hk, if_pos rfl, if_pos rfl⟩
  · obtain ⟨k', a, b, c⟩ := h j (by omega)
    exact ⟨k', a, (if_neg e).trans b, (if_neg e).trans c⟩
/-- how a reading ends -/
def zz_re (t : Nat → Nat) (n i : Nat) (r : Int32) (kinds starts : Nat → Int32) (c : Int32) (hp w : Int32) : Prop := (∃ e, e ≤ 100 ∧ r = nI e ∧ hp = nI e ∧ w = 1) ∨ (r = -1 ∧ w = 0 ∧ hp = nI n ∧ ∃ m, i < m ∧ m ≤ 12 ∧ c = nI m ∧ zz_rdd t n kinds starts m ∧ (∀ j, j + 1 < m → zz_ct t n j) ∧ zz_nx t n (zz_sf t n (m - 1)) = n)
theorem zp_readL (h : zz_Tx n t sg tx) (hw : zz_Wd wd wa) (hK : 100 ≤ K) (tX tY tM : Int32) : ∀ m i, 61 - zz_sf t n i ≤ m → 6 * i ≤ zz_sf t n i → zz_sf t n i ≤ 60 → ∀ kinds starts, zz_rdd t n kinds starts i → (∀ j, j < i → zz_ct t n j) → ∀ K1 K2 il x1, m < K1 → m < K2 → ∃ r kinds' starts' c', f_X2_readAll_L7 K sg (nI n) K1 (nI (zz_sf t n i)) kinds starts (nI i) = some (r, kinds', starts', c') ∧ ∃ y1 il' hp w, ((f_X13_command K 0 v far scratch tX tY tM tx il wd wa (nI (zz_sf t n i)) (nI n) 0 0).bind fun q => f_X13_commands_L16 K tx wd wa (nI n) 0 K2 x1 q.1 q.2.1 q.2.2.1 q.2.2.2.1 q.2.2.2.2.1 q.2.2.2.2.2.1 q.2.2.2.2.2.2.1 q.2.2.2.2.2.2.2.1 q.2.2.2.2.2.2.2.2.1 q.2.2.2.2.2.2.2.2.2) = some (y1, 0, v, far, scratch, tX, tY, tM, il', hp, w) ∧ zz_re t n i r kinds' starts' c' hp w := by
  intro m
  induction m with
  | zero => intro i hm _ h60; exfalso; omega
  | succ m ih =>
    intro i hm h6 h60 kinds starts hrd hct K1 K2 il x1 h1 h2
    obtain ⟨L1, rfl, g1⟩ := zz_k K1 (m + 1) h1
    obtain ⟨L2, rfl, g2⟩ := zz_k K2 (m + 1) h2
    obtain ⟨L3, rfl, _⟩ := zz_k L2 0 (by omega)
    have hn60 := h.1
    rw [f_X2_readAll_L7, zz_l60, if_neg (nI_ge (by omega) (by omega)), zc_kindAt h hK h60, zz_b]
    cases hkd : zz_kd t n (zz_sf t n i) with
    | none =>
      have h10 := zz_hi_10 (t := t) (n := n) (p := zz_sf t n i)
      obtain ⟨il', e1⟩ := zm_cmd_n (v := v) (far := far) (scratch := scratch) h hw hK h60 hkd il 0 tX tY tM 0
      rw [zz_on, if_pos rfl, zc_longest h hK h60, zz_b, nI_add]
      refine ⟨_, _, _, _, rfl, x1, il', nI (zz_sf t n i + zz_hi (zz_m t n (zz_sf t n i)) 11), 1, ?_, Or.inl ⟨_, ?_, rfl, rfl, rfl⟩⟩
      · rw [e1, zz_b]
        show f_X13_commands_L16 K tx wd wa (nI n) 0 (L3 + 1 + 1) x1 0 v far scratch tX tY tM il' (nI (zz_sf t n i + zz_hi (zz_m t n (zz_sf t n i)) 11)) 1 = _
        rw [f_X13_commands_L16, if_neg (show ¬ ((1 : Int32) = 0) by decide)]
      · omega
    | some k =>
      obtain ⟨hk, hk2⟩ := zz_kd_y hkd
      obtain ⟨il', e1⟩ := zm_cmd_0 (v := v) (far := far) (scratch := scratch) h hw hK h60 hkd il 0 tX tY tM
      obtain ⟨c1, c2, c3⟩ := zc_endIn h hK h60 hkd
      have hnx := zz_nx_y hkd
      have hrd2 := zz_rdd_s hrd hkd
      rw [zz_os, if_neg (zz_n1 (by omega)), zz_g (by omega) (by decide), zz_g (by omega) (by decide), zz_g hk (by decide), nI_clamp (by omega), nI_clamp (by omega), c1, zz_b, e1, zz_b]
      show ∃ r kinds' starts' c', _ = some (r, kinds', starts', c') ∧ ∃ y1 il'_1 hp w, f_X13_commands_L16 K tx wd wa (nI n) 0 (L3 + 1 + 1) x1 0 v far scratch tX tY tM il' (nI (zz_en t n (zz_sf t n i) k)) 0 = some (y1, 0, v, far, scratch, tX, tY, tM, il'_1, hp, w) ∧ zz_re t n i r kinds' starts' c' hp w
      rw [f_X13_commands_L16, if_pos rfl, if_pos rfl]
      by_cases e : zz_en t n (zz_sf t n i) k = n
      · rw [e, if_pos rfl, if_pos (nI_le (Nat.le_refl n) (by omega)), nI_1]
        refine ⟨_, _, _, _, rfl, x1, il', nI n, 0, rfl, Or.inr ⟨rfl, rfl, rfl, i + 1, Nat.lt_succ_self i, by omega, rfl, hrd2, fun j hj => hct j (by omega), ?_⟩⟩
        rw [Nat.add_sub_cancel, hnx, e]
      · rw [if_neg (zz_ne e (by omega) (by omega)), zc_signV h (by omega), zz_b, if_pos (show zz_en t n (zz_sf t n i) k < n by omega), if_neg (nI_ge (show zz_en t n (zz_sf t n i) k < n by omega) (by omega)), f_X13_mark, if_pos rfl, zm_signV h (by omega), zz_b, if_pos (show zz_en t n (zz_sf t n i) k < n by omega)]
        have ht := (h.2 (zz_en t n (zz_sf t n i) k) (by omega)).2.1
        by_cases e2 : t (zz_en t n (zz_sf t n i) k) = 59
        · rw [e2, if_pos (show nI 59 = 59 by decide), if_pos (show nI 59 = 59 by decide), zz_b, if_pos rfl, nI_1, nI_1]
          have hs : zz_sf t n (i + 1) = zz_en t n (zz_sf t n i) k + 1 := by
            show zz_nx t n (zz_sf t n i) + 1 = _
            rw [hnx]
          have key := ih (i + 1) (by omega) (by omega) (by omega) (upd kinds i (nI k)) (upd starts i (nI (zz_sf t n i))) hrd2 (fun j hj => by
            by_cases u : j = i
            · subst u
              exact ⟨by omega, by rw [hnx]; exact e2⟩
            · exact hct j (by omega)) L1 (L3 + 1) il' (x1 + 1) (by omega) (by omega)
          rw [hs] at key
          obtain ⟨r, ki, st, c, k1, y1, il2, hp, w, k2, k3⟩ := key
          refine ⟨r, ki, st, c, k1, y1, il2, hp, w, k2, ?_⟩
          rcases k3 with k3 | ⟨q1, q2, q3, mm, q4, q5⟩
          · exact Or.inl k3
          · exact Or.inr ⟨q1, q2, q3, mm, by omega, q5⟩
        · have hne : ¬ nI (t (zz_en t n (zz_sf t n i) k)) = 59 := zz_ne e2 (by omega) (by decide)
          rw [if_neg hne, if_neg hne, zz_b, if_neg (show ¬ ((1 : Int32) = 0) by decide)]
          refine ⟨_, _, _, _, rfl, x1 + 1, il', nI (zz_en t n (zz_sf t n i) k), 1, ?_, Or.inl ⟨_, ?_, rfl, rfl, rfl⟩⟩
          · show f_X13_commands_L16 K tx wd wa (nI n) 0 (L3 + 1) (x1 + 1) 0 v far scratch tX tY tM il' (nI (zz_en t n (zz_sf t n i) k) + nI 0) 1 = _
            rw [f_X13_commands_L16, if_neg (show ¬ ((1 : Int32) = 0) by decide), nI_add]
            rfl
          · omega
theorem zp_read (h : zz_Tx n t sg tx) (hw : zz_Wd wd wa) (hK : 100 ≤ K) (tX tY tM : Int32) (kinds starts il : Nat → Int32) : ∃ r kinds' starts' c', f_X2_readAll K kinds starts sg (nI n) = some (r, kinds', starts', c') ∧ ∃ y1 il' hp w, f_X13_commands K 0 v far scratch tX tY tM tx il wd wa (nI n) 0 = some (y1, 0, v, far, scratch, tX, tY, tM, il', hp, w) ∧ zz_re t n 0 r kinds' starts' c' hp w := by
  obtain ⟨r, ki, st, c, k1, y1, il2, hp, w, k2, k3⟩ := zp_readL (v := v) (far := far) (scratch := scratch) h hw hK tX tY tM 61 0 (by omega) (Nat.zero_le _) (Nat.zero_le _) kinds starts (fun j hj => absurd hj (Nat.not_lt_zero _)) (fun j hj => absurd hj (Nat.not_lt_zero _)) K K il 1 (by omega) (by omega)
  refine ⟨r, ki, st, c, k1, y1, il2, hp, w, ?_, k3⟩
  rw [f_X13_commands]
  have k4 : ((f_X13_command K 0 v far scratch tX tY tM tx il wd wa 0 (nI n) 0 0).bind fun q => f_X13_commands_L16 K tx wd wa (nI n) 0 K 1 q.1 q.2.1 q.2.2.1 q.2.2.2.1 q.2.2.2.2.1 q.2.2.2.2.2.1 q.2.2.2.2.2.2.1 q.2.2.2.2.2.2.2.1 q.2.2.2.2.2.2.2.2.1 q.2.2.2.2.2.2.2.2.2) = some (y1, 0, v, far, scratch, tX, tY, tM, il2, hp, w) := k2
  cases hq : f_X13_command K 0 v far scratch tX tY tM tx il wd wa 0 (nI n) 0 0 with
  | none => rw [hq] at k4; cases k4
  | some q =>
    rw [hq, zz_b] at k4
    rw [zz_b, k4]
    rfl
end ZRD
