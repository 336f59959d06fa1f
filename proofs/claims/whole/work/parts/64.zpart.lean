-- the calls that ask for pairings
section ZPA
variable {S : Nat → Nat} {K n : Nat} {lc cs bs bm : Nat → Int32} {ln : Int32} {v : Nat → Int32}
theorem zc_even {n : Nat} (hn : n ≤ 8) : f_X12_requireEvenLandings (nI n) = some (if n % 2 = 0 then 0 else 3) := by
  rw [f_X12_requireEvenLandings, zz_l2, pk_rem (by omega) (by decide) (by decide)]
  by_cases e : n % 2 = 0
  · rw [e, if_pos (by decide), if_pos rfl]
  · rw [if_neg (nI_ne0 (by omega) (by omega)), if_neg e]
theorem zc_costT (hn : n ≤ 8) (hK : 1000 ≤ K) (hl : ∀ l, l < n → lc l = nI (S (230 + l))) (h81 : ∀ l, l < n → S (230 + l) < 81) (he : n % 2 = 0) (cs bs : Nat → Int32) : ∃ c b, f_X7_costByTable K cs bs lc (nI n) = some (nI (zz_lv (zz_pq S n) 4 (2 ^ n - 1)), c, b) := by
  obtain ⟨h1, h256, hpos⟩ := zz_sets5 n (by omega)
  obtain ⟨c, c1, c2⟩ := zc_fillC hn (K := K) (by omega) hl h81 cs
  obtain ⟨b, b1, b2⟩ := zc_table hn hK h81 c2 bs
  refine ⟨c, b, ?_⟩
  rw [f_X7_costByTable, c1, zz_b, b1, zz_b, zc_allOf n (by omega), zz_b, zz_g (by omega) (by decide), nI_clamp (by omega), b2 _ (by omega), zz_tb_e (by omega)]
theorem zc_costS (hn : n ≤ 8) (hK : 1000 ≤ K) (hl : ∀ l, l < n → lc l = nI (S (230 + l))) (h81 : ∀ l, l < n → S (230 + l) < 81) (he : n % 2 = 0) (cs : Nat → Int32) : ∃ c, f_X7_costByTrying K cs lc (nI n) = some (nI (zz_lv (zz_pq S n) 4 (2 ^ n - 1)), c) := by
  obtain ⟨h1, h256, hpos⟩ := zz_sets5 n (by omega)
  obtain ⟨c, c1, c2⟩ := zc_fillC hn (K := K) (by omega) hl h81 cs
  refine ⟨c, ?_⟩
  rw [f_X7_costByTrying, c1, zz_b, zc_allOf n (by omega), zz_b]
  show (f_X7_leastCost_lvl5 K c (nI (2 ^ n - 1)) (nI 0)).bind _ = _
  rw [zc_least5 hn (by omega) h81 c2 (by omega) (by omega) (by omega)]
  rfl
theorem zm_costT (hn : S 4 = n) (hn8 : n ≤ 8) (hM : zz_Pm S v) (hK : 1000 ≤ K) (h81 : ∀ l, l < n → S (230 + l) < 81) (bs : Nat → Int32) : ∃ r b, f_X13_pairingCost K v bs = some (r, nI (n % 2), b) ∧ (n % 2 = 0 → r = nI (zz_lv (zz_pq S n) 4 (2 ^ n - 1))) := by
  obtain ⟨h1, h256, hpos⟩ := zz_sets5 n (by omega)
  have hv4 : v 4 = nI n := by rw [hM 4 (by decide), hn]
  rw [f_X13_pairingCost, hv4, zz_l2, pk_rem (by omega) (by decide) (by decide)]
  by_cases e : n % 2 = 0
  · obtain ⟨b, b1, b2⟩ := zm_sets hn hn8 hM hK h81 bs
    refine ⟨_, b, ?_, fun _ => rfl⟩
    rw [e, if_pos (by decide), b1, zz_b, zm_shl n (by omega), zz_l1, pk_sub (by omega), zz_g (by omega) (by decide), nI_clamp (by omega), b2 _ (by omega), zz_tb_e (by omega)]
  · exact ⟨0, bs, by rw [if_neg (nI_ne0 (by omega) (by omega))], fun q => absurd q e⟩
theorem zp_pcost (hK : 1000 ≤ K) (il : zz_Il S) (pl : zz_Pl S lc ln) (hM : zz_Pm S v) (cs bs bm : Nat → Int32) : ∃ cc cv c b r e b', f_X12_pairingCost K lc ln cs bs = some (cc, cv, c, b) ∧ f_X13_pairingCost K v bm = some (r, e, b') ∧ ((cc = 0 ∧ e = 0 ∧ cv = r) ∨ (cc = 3 ∧ e = 1)) := by
  obtain ⟨rfl, p2⟩ := pl
  obtain ⟨r, b', m1, m2⟩ := zm_costT (K := K) rfl il.1 hM hK il.2 bm
  have i1 := il.1
  by_cases e : S 4 % 2 = 0
  · obtain ⟨c, b, c1⟩ := zc_costT (K := K) il.1 hK p2 il.2 e cs bs
    refine ⟨0, _, c, b, r, _, b', ?_, m1, Or.inl ⟨rfl, by rw [e]; rfl, (m2 e).symm⟩⟩
    rw [f_X12_pairingCost, zc_even i1, if_pos e, zz_b, if_pos rfl, c1]
    rfl
  · refine ⟨3, 0, cs, bs, r, _, b', ?_, m1, Or.inr ⟨rfl, by rw [show S 4 % 2 = 1 by omega]; rfl⟩⟩
    rw [f_X12_pairingCost, zc_even i1, if_neg e, zz_b, if_neg (by decide)]
theorem zp_pcostS (hK : 1000 ≤ K) (il : zz_Il S) (pl : zz_Pl S lc ln) (hM : zz_Pm S v) (cs bm : Nat → Int32) : ∃ cc cv c r e b', f_X12_pairingCostBySearch K lc ln cs = some (cc, cv, c) ∧ f_X13_pairingCostBySearch K v bm = some (r, e, b') ∧ ((cc = 0 ∧ e = 0 ∧ cv = r) ∨ (cc = 3 ∧ e = 1)) := by
  obtain ⟨rfl, p2⟩ := pl
  obtain ⟨r, b', m1, m2⟩ := zm_costT (K := K) rfl il.1 hM hK il.2 bm
  have i1 := il.1
  have m3 : f_X13_pairingCostBySearch K v bm = some (r, nI (S 4 % 2), b') := by
    rw [f_X13_pairingCostBySearch, m1]
    rfl
  by_cases e : S 4 % 2 = 0
  · obtain ⟨c, c1⟩ := zc_costS (K := K) il.1 hK p2 il.2 e cs
    refine ⟨0, _, c, r, _, b', ?_, m3, Or.inl ⟨rfl, by rw [e]; rfl, (m2 e).symm⟩⟩
    rw [f_X12_pairingCostBySearch, zc_even i1, if_pos e, zz_b, if_pos rfl, c1]
    rfl
  · refine ⟨3, 0, cs, r, _, b', ?_, m3, Or.inr ⟨rfl, by rw [show S 4 % 2 = 1 by omega]; rfl⟩⟩
    rw [f_X12_pairingCostBySearch, zc_even i1, if_neg e, zz_b, if_neg (by decide)]
theorem zp_pagree (hK : 1000 ≤ K) (il : zz_Il S) (pl : zz_Pl S lc ln) (cs bs : Nat → Int32) : ∃ c b, f_X12_pairingsAgree K lc ln cs bs = some (1, c, b) := by
  obtain ⟨rfl, p2⟩ := pl
  have i1 := il.1
  rw [f_X12_pairingsAgree, zz_l2, pk_rem (by omega) (by decide) (by decide)]
  by_cases e : S 4 % 2 = 0
  · obtain ⟨c, b, c1⟩ := zc_costT (K := K) il.1 hK p2 il.2 e cs bs
    obtain ⟨c', c2⟩ := zc_costS (K := K) il.1 hK p2 il.2 e c
    refine ⟨c', b, ?_⟩
    rw [e, if_pos (by decide), c1, zz_b]
    show ((f_X7_costByTrying K c lc (nI (S 4))).bind _) = _
    rw [c2, zz_b, if_pos rfl]
  · exact ⟨cs, bs, by rw [if_neg (nI_ne0 (by omega) (by omega))]⟩
theorem zc_fbp (hn : n ≤ 8) (hK : 100 ≤ K) (h81 : ∀ l, l < n → S (230 + l) < 81) (hc : ∀ a b, a < n → b < n → cs (a * 8 + b) = nI (zz_pq S n a b)) (hb : ∀ s, s < 2 ^ n → bs s = nI (zz_tb (zz_pq S n) 1000000 s)) {s : Nat} (hs : s < 2 ^ n) (h0 : s ≠ 0) (he : zz_pop s % 2 = 0) {j : Nat} (hj : zz_fi (zz_bp (zz_pq S n) s) 8 = some j) : f_X7_firstBestPartner K cs bs (nI s) = some (nI j) := by
  have h256 := (zz_sets5 n (by omega)).2.1
  have hs2 : s < 256 := by omega
  obtain ⟨_, hf, hfb, _⟩ := zz_sets1 s hs2 h0
  have hfn := zz_sets4 n (by omega) s hs _ hf hfb
  obtain ⟨j1, j2, j3⟩ := zz_fi_some hj
  have hlo : ∀ i, i ≤ zz_fo s → zz_bp (zz_pq S n) s i = false := by
    intro i hi
    unfold zz_bp
    rw [decide_eq_false (show ¬ zz_fo s < i by omega)]
    rfl
  rw [f_X7_firstBestPartner, zc_firstOf hs2 hK, zz_b, nI_1]
  refine zz_for (fun K' i (_ : Unit) => f_X7_firstBestPartner_L9 cs bs (nI s) (nI (zz_fo s)) K' (nI i)) 8 (fun i _ => zz_fo s + 1 ≤ i ∧ zz_fi (zz_bp (zz_pq S n) s) i = none) (fun z => z = some (nI j)) ?_ ?_ (8 - (zz_fo s + 1)) (zz_fo s + 1) K () (by omega) (by omega) ⟨Nat.le_refl _, ?_⟩
  · intro k _ h
    rw [hj] at h
    cases h.2
  · intro k i _ hi h ih
    obtain ⟨hi0, hz⟩ := h
    show f_X7_firstBestPartner_L9 cs bs (nI s) (nI (zz_fo s)) (k + 1) (nI i) = _
    rw [f_X7_firstBestPartner_L9, zz_l8, if_neg (nI_ge hi (by decide)), zc_holds s hs2 i hi, zz_b, nI_1]
    cases e : zz_bt s i with
    | false =>
      rw [zz_Bf, if_pos rfl]
      exact ih () ⟨by omega, zz_fi_n hz (by unfold zz_bp; rw [e, Bool.false_and, Bool.and_false])⟩
    | true =>
      obtain ⟨r1, r2⟩ := zz_sets2 s hs2 i hi e (by omega)
      have hin := zz_sets4 n (by omega) s hs i hi e
      have hpop := (zz_sets7 s hs2).1
      have hl1 := (zz_lv_s (zz_pq_lt h81) 4 (zz_rs s (zz_fo s) i) (by decide) (by omega) (by omega) (by omega)).1
      have hl2 := (zz_lv_s (zz_pq_lt h81) 4 s (by decide) hs2 he (by omega)).1
      have hpl := zz_pq_lt h81 (zz_fo s) i hf hi
      rw [zz_Bt, if_neg (by decide), zc_choice (g := zz_tb (zz_pq S n) 1000000) hs2 hfn hin hn hc (hb _ (by omega)), zz_b, zz_g hs2 (by decide), nI_clamp (by omega), hb s hs, zz_tb_e he, zz_tb_e (by omega)]
      have hbp : zz_bp (zz_pq S n) s i = decide (zz_pq S n (zz_fo s) i + zz_lv (zz_pq S n) 4 (zz_rs s (zz_fo s) i) = zz_lv (zz_pq S n) 4 s) := by
        unfold zz_bp
        rw [decide_eq_true (show zz_fo s < i by omega), e, Bool.true_and, Bool.true_and]
      by_cases g : zz_pq S n (zz_fo s) i + zz_lv (zz_pq S n) 4 (zz_rs s (zz_fo s) i) = zz_lv (zz_pq S n) 4 s
      · rw [if_pos (congrArg nI g)]
        have := zz_fi_y hz (by rw [hbp]; exact decide_eq_true g) hi
        rw [hj] at this
        cases this
        rfl
      · rw [if_neg (zz_ne g (by omega) (by omega))]
        exact ih () ⟨by omega, zz_fi_n hz (by rw [hbp]; exact decide_eq_false g)⟩
  · cases q : zz_fi (zz_bp (zz_pq S n) s) (zz_fo s + 1) with
    | none => rfl
    | some b =>
      obtain ⟨q1, q2, _⟩ := zz_fi_some q
      rw [hlo b (by omega)] at q2
      cases q2
theorem zm_fbp (hn8 : n ≤ 8) (hK : 100 ≤ K) (hM : zz_Pm S v) (h81 : ∀ l, l < n → S (230 + l) < 81) (hb : ∀ s, s < 2 ^ n → bm s = nI (zz_tb (zz_pq S n) 100000 s)) {s : Nat} (hs : s < 2 ^ n) (h0 : s ≠ 0) (he : zz_pop s % 2 = 0) {j : Nat} (hj : zz_fi (zz_bp (zz_pq S n) s) 8 = some j) : f_X13_partnerOf_L71 v bm (nI s) (nI (zz_fo s)) K (nI (zz_fo s + 1)) = some (nI j) := by
  have h256 := (zz_sets5 n (by omega)).2.1
  have hs2 : s < 256 := by omega
  obtain ⟨_, hf, hfb, _⟩ := zz_sets1 s hs2 h0
  have hfn := zz_sets4 n (by omega) s hs _ hf hfb
  have hlo : ∀ i, i ≤ zz_fo s → zz_bp (zz_pq S n) s i = false := by
    intro i hi
    unfold zz_bp
    rw [decide_eq_false (show ¬ zz_fo s < i by omega)]
    rfl
  refine zz_for (fun K' i (_ : Unit) => f_X13_partnerOf_L71 v bm (nI s) (nI (zz_fo s)) K' (nI i)) 8 (fun i _ => zz_fo s + 1 ≤ i ∧ zz_fi (zz_bp (zz_pq S n) s) i = none) (fun z => z = some (nI j)) ?_ ?_ (8 - (zz_fo s + 1)) (zz_fo s + 1) K () (by omega) (by omega) ⟨Nat.le_refl _, ?_⟩
  · intro k _ h
    rw [hj] at h
    cases h.2
  · intro k i _ hi h ih
    obtain ⟨hi0, hz⟩ := h
    show f_X13_partnerOf_L71 v bm (nI s) (nI (zz_fo s)) (k + 1) (nI i) = _
    rw [f_X13_partnerOf_L71, zm_bit s hs2 i hi, nI_1]
    cases e : zz_bt s i with
    | false =>
      rw [zz_Bf, if_pos rfl]
      exact ih () ⟨by omega, zz_fi_n hz (by unfold zz_bp; rw [e, Bool.false_and, Bool.and_false])⟩
    | true =>
      obtain ⟨r1, r2⟩ := zz_sets2 s hs2 i hi e (by omega)
      have hin := zz_sets4 n (by omega) s hs i hi e
      have hpop := (zz_sets7 s hs2).1
      have hl1 := (zz_lv_s (zz_pq_lt h81) 4 (zz_rs s (zz_fo s) i) (by decide) (by omega) (by omega) (by omega)).1
      have hl2 := (zz_lv_s (zz_pq_lt h81) 4 s (by decide) hs2 he (by omega)).1
      have hpl := zz_pq_lt h81 (zz_fo s) i hf hi
      rw [zz_Bt, if_neg (by decide), zm_pair hn8 hM h81 hfn hin, zz_b, zz_without hs2 hf hi, zz_g (show zz_rs s (zz_fo s) i < 256 by omega) (by decide), zz_g hs2 (by decide), nI_clamp (by omega), nI_clamp (by omega), hb s hs, hb _ (by omega), zz_tb_e he, zz_tb_e (by omega), nI_add]
      have hbp : zz_bp (zz_pq S n) s i = decide (zz_pq S n (zz_fo s) i + zz_lv (zz_pq S n) 4 (zz_rs s (zz_fo s) i) = zz_lv (zz_pq S n) 4 s) := by
        unfold zz_bp
        rw [decide_eq_true (show zz_fo s < i by omega), e, Bool.true_and, Bool.true_and]
      by_cases g : zz_pq S n (zz_fo s) i + zz_lv (zz_pq S n) 4 (zz_rs s (zz_fo s) i) = zz_lv (zz_pq S n) 4 s
      · rw [if_pos (congrArg nI g)]
        have := zz_fi_y hz (by rw [hbp]; exact decide_eq_true g) hi
        rw [hj] at this
        cases this
        rfl
      · rw [if_neg (zz_ne g (by omega) (by omega))]
        exact ih () ⟨by omega, zz_fi_n hz (by rw [hbp]; exact decide_eq_false g)⟩
  · cases q : zz_fi (zz_bp (zz_pq S n) s) (zz_fo s + 1) with
    | none => rfl
    | some b =>
      obtain ⟨q1, q2, _⟩ := zz_fi_some q
      rw [hlo b (by omega)] at q2
      cases q2
theorem zp_partL (hn8 : n ≤ 8) (hK : 1000 ≤ K) (hM : zz_Pm S v) (h81 : ∀ l, l < n → S (230 + l) < 81) (hc : ∀ a b, a < n → b < n → cs (a * 8 + b) = nI (zz_pq S n a b)) (hb : ∀ s, s < 2 ^ n → bs s = nI (zz_tb (zz_pq S n) 1000000 s)) (hb2 : ∀ s, s < 2 ^ n → bm s = nI (zz_tb (zz_pq S n) 100000 s)) {l : Nat} (hl : l < n) : ∀ m s k1 k2 pr, zz_pop s ≤ 2 * m → zz_pop s % 2 = 0 → s < 2 ^ n → zz_bt s l = true → pr + m ≤ 4 → m < k1 → m < k2 → ∃ x, f_X7_bestPartner_L24 K cs bs (nI l) k1 (nI s) (nI pr) = some (nI x, cs, bs) ∧ f_X13_partnerOf_L57 K 0 v bm (nI l) k2 (nI s) = some (nI x, 0, bm) := by
  have h256 := (zz_sets5 n (by omega)).2.1
  intro m
  induction m with
  | zero =>
    intro s k1 k2 pr hp he hs hbt
    have := (zz_sets7 s (by omega)).2 (by omega)
    subst this
    rw [zz_sets8 l (by omega)] at hbt
    cases hbt
  | succ m ih =>
    intro s k1 k2 pr hp he hs hbt hpr hk1 hk2
    have hs2 : s < 256 := by omega
    have h0 : s ≠ 0 := by
      intro q
      rw [q, zz_sets8 l (by omega)] at hbt
      cases hbt
    obtain ⟨k1, rfl, _⟩ := zz_k k1 (m + 1) hk1
    obtain ⟨k2, rfl, _⟩ := zz_k k2 (m + 1) hk2
    obtain ⟨_, hf, hfb, _⟩ := zz_sets1 s hs2 h0
    obtain ⟨j, j1, j2, j3, j4, j5⟩ := zz_bp_ex (zz_pq_lt h81) hs2 h0 he
    obtain ⟨r1, r2⟩ := zz_sets2 s hs2 j j3 j4 j2
    rw [f_X7_bestPartner_L24, zz_l4, if_neg (nI_ge (by omega) (by decide)), if_neg (nI_ne0 (by omega) (by omega)), zc_firstOf hs2 (by omega), zz_b, zc_fbp hn8 (by omega) h81 hc hb hs h0 he j1, zz_b, nI_1, f_X13_partnerOf_L57, if_neg (nI_ne0 (by omega) (by omega)), zm_lowest hs2 h0 (by omega), zz_b, nI_1, zm_fbp hn8 (by omega) hM h81 hb2 hs h0 he j1, zz_b]
    by_cases e1 : zz_fo s = l
    · rw [if_pos (congrArg nI e1), if_pos (congrArg nI e1)]
      exact ⟨j, rfl, rfl⟩
    · rw [if_neg (zz_ne e1 (by omega) (by omega)), if_neg (zz_ne e1 (by omega) (by omega))]
      by_cases e2 : j = l
      · rw [if_pos (congrArg nI e2), if_pos (congrArg nI e2)]
        exact ⟨zz_fo s, rfl, rfl⟩
      · rw [if_neg (zz_ne e2 (by omega) (by omega)), if_neg (zz_ne e2 (by omega) (by omega)), zc_without hs2 hf j3, zz_b, zz_without hs2 hf j3]
        refine ih (zz_rs s (zz_fo s) j) k1 k2 (pr + 1) (by omega) (by omega) (by omega) ?_ (by omega) (by omega) (by omega)
        have hrm := zz_rm_lt (s := s) (a := zz_fo s)
        show zz_bt (zz_rm (zz_rm s (zz_fo s)) j) l = true
        rw [zz_sets3 _ (by omega) j j3 l (by omega) (fun q => e2 q.symm), zz_sets3 s hs2 _ hf l (by omega) (fun q => e1 q.symm)]
        exact hbt
theorem zp_partner (hK : 1000 ≤ K) (il : zz_Il S) (pl : zz_Pl S lc ln) (hM : zz_Pm S v) (cs bs bm : Nat → Int32) (x : Int32) : ∃ cc cv c b r e b', f_X12_partnerOf K lc ln cs bs x = some (cc, cv, c, b) ∧ f_X13_partnerOf K v bm x = some (r, e, b') ∧ ((cc = 0 ∧ e = 0 ∧ cv = r) ∨ (cc = 1 ∧ e = 1) ∨ (cc = 3 ∧ e = 2)) := by
  obtain ⟨rfl, p2⟩ := pl
  obtain ⟨i1, i2⟩ := il
  have hv4 : v 4 = nI (S 4) := hM 4 (by decide)
  rcases zm_isIn x (n := S 4) (by omega) with ⟨h, h2⟩ | ⟨l, hl, rfl, h⟩
  · refine ⟨1, 0, cs, bs, 0, 1, bm, ?_, ?_, Or.inr (Or.inl ⟨rfl, rfl⟩)⟩
    · rw [f_X12_partnerOf]
      rcases h2 with h2 | h2
      · rw [if_pos h2.1]
      · rw [if_neg h2.1, if_neg h2.2.2.2]
    · rw [f_X13_partnerOf, f_X13_isLanding, hv4, h]
      rfl
  · have hil : f_X13_isLanding v (nI l) = some 1 := by
      rw [f_X13_isLanding, hv4, h, zz_b, zz_d (Or.inr rfl)]
    by_cases e : S 4 % 2 = 0
    · obtain ⟨h1, h256, hpos⟩ := zz_sets5 (S 4) (by omega)
      obtain ⟨c, c1, c2⟩ := zc_fillC i1 (K := K) (by omega) p2 i2 cs
      obtain ⟨b, b1, b2⟩ := zc_table i1 hK i2 c2 bs
      obtain ⟨b', b1', b2'⟩ := zm_sets rfl i1 hM hK i2 bm
      obtain ⟨y, y1, y2⟩ := zp_partL i1 hK hM i2 c2 b2 b2' hl 4 (2 ^ S 4 - 1) K K 0 (by omega) (by omega) (by omega) (zz_sets6 _ (by omega) l hl) (by decide) (by omega) (by omega)
      refine ⟨0, nI y, c, b, nI y, 0, b', ?_, ?_, Or.inl ⟨rfl, rfl, rfl⟩⟩
      · rw [f_X12_partnerOf, if_neg (nI_pos (by omega)), if_pos (nI_lt hl (by omega)), zc_even i1, if_pos e, zz_b, if_pos rfl, f_X7_bestPartner, c1, zz_b, b1, zz_b, zc_allOf _ (by omega), zz_b]
        show (f_X7_bestPartner_L24 K c b (nI l) K (nI (2 ^ S 4 - 1)) (nI 0)).bind _ = _
        rw [y1]
        rfl
      · rw [f_X13_partnerOf, hil, zz_b, if_neg (by decide), hv4, zz_l2, pk_rem (by omega) (by decide) (by decide), e, if_neg (show ¬ nI 0 = 1 by decide), b1', zz_b, zm_shl _ (by omega), zz_l1, pk_sub (by omega)]
        exact y2
    · refine ⟨3, 0, cs, bs, 0, 2, bm, ?_, ?_, Or.inr (Or.inr ⟨rfl, rfl⟩)⟩
      · rw [f_X12_partnerOf, if_neg (nI_pos (by omega)), if_pos (nI_lt hl (by omega)), zc_even i1, if_neg e, zz_b, if_neg (by decide)]
      · rw [f_X13_partnerOf, hil, zz_b, if_neg (by decide), hv4, zz_l2, pk_rem (by omega) (by decide) (by decide), show S 4 % 2 = 1 by omega, if_pos (show nI 1 = 1 by decide)]
end ZPA
