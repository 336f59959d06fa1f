-- the reeds and the fog on both sides
section ZR
variable {S T : Nat → Nat} {B K : Nat} {st ce : Nat → Int32} {ct br fg : Int32} {v : Nat → Int32}
theorem zz_Ex_r (h : ∀ k, k ≠ 0 → (k < 7 ∨ 88 ≤ k) → T k = S k) : zz_Eb S T ∧ zz_Ep S T ∧ zz_El S T ∧ zz_Ef S T :=
  ⟨⟨h 2 (by decide) (by decide), h 3 (by decide) (by decide), h 5 (by decide) (by decide), h 6 (by decide) (by decide), fun k _ => h _ (by omega) (by omega)⟩, fun k _ => h _ (by omega) (by omega), ⟨h 4 (by decide) (by decide), fun k _ => h _ (by omega) (by omega)⟩, h 1 (by decide) (by decide)⟩
theorem zz_Ex_b (h : ∀ k, k ≠ 2 → k ≠ 3 → k ≠ 5 → k ≠ 6 → (k < 88 ∨ 104 ≤ k) → T k = S k) : zz_Er S T ∧ zz_Ep S T ∧ zz_El S T ∧ zz_Ef S T :=
  ⟨⟨h 0 (by decide) (by decide) (by decide) (by decide) (by decide), fun k _ => h _ (by omega) (by omega) (by omega) (by omega) (by omega)⟩, fun k _ => h _ (by omega) (by omega) (by omega) (by omega) (by omega), ⟨h 4 (by decide) (by decide) (by decide) (by decide) (by decide), fun k _ => h _ (by omega) (by omega) (by omega) (by omega) (by omega)⟩, h 1 (by decide) (by decide) (by decide) (by decide) (by decide)⟩
theorem zz_Ex_p (h : ∀ k, (k < 104 ∨ 230 ≤ k) → T k = S k) : zz_Er S T ∧ zz_Eb S T ∧ zz_El S T ∧ zz_Ef S T :=
  ⟨⟨h 0 (by decide), fun k _ => h _ (by omega)⟩, ⟨h 2 (by decide), h 3 (by decide), h 5 (by decide), h 6 (by decide), fun k _ => h _ (by omega)⟩, ⟨h 4 (by decide), fun k _ => h _ (by omega)⟩, h 1 (by decide)⟩
theorem zz_Ex_l (h : ∀ k, k ≠ 4 → (k < 230 ∨ 238 ≤ k) → T k = S k) : zz_Er S T ∧ zz_Eb S T ∧ zz_Ep S T ∧ zz_Ef S T :=
  ⟨⟨h 0 (by decide) (by decide), fun k _ => h _ (by omega) (by omega)⟩, ⟨h 2 (by decide) (by decide), h 3 (by decide) (by decide), h 5 (by decide) (by decide), h 6 (by decide) (by decide), fun k _ => h _ (by omega) (by omega)⟩, fun k _ => h _ (by omega) (by omega), h 1 (by decide) (by decide)⟩
theorem zz_Ex_f (h : ∀ k, k ≠ 1 → T k = S k) : zz_Er S T ∧ zz_Eb S T ∧ zz_Ep S T ∧ zz_El S T :=
  ⟨⟨h 0 (by decide), fun k _ => h _ (by omega)⟩, ⟨h 2 (by decide), h 3 (by decide), h 5 (by decide), h 6 (by decide), fun k _ => h _ (by omega)⟩, fun k _ => h _ (by omega), ⟨h 4 (by decide), fun k _ => h _ (by omega)⟩⟩
theorem zz_rch {c : Nat} (hc : c < 81) (h : ∀ j, j < 81 → j ≠ c → T (7 + j) = S (7 + j)) : zz_cn T + (if S (7 + c) = 0 then 0 else 1) = zz_cn S + (if T (7 + c) = 0 then 0 else 1) ∧ zz_br T + (if S (7 + c) = 2 then 1 else 0) = zz_br S + (if T (7 + c) = 2 then 1 else 0) :=
  ⟨zz_sm_u (f := fun c => if T (7 + c) = 0 then 0 else 1) (g := fun c => if S (7 + c) = 0 then 0 else 1) hc (fun j hj hn => by rw [h j hj hn]), zz_sm_u (f := fun c => if T (7 + c) = 2 then 1 else 0) (g := fun c => if S (7 + c) = 2 then 1 else 0) hc (fun j hj hn => by rw [h j hj hn])⟩
theorem zz_cn_le (S : Nat → Nat) : zz_cn S ≤ 81 := Nat.le_trans (zz_sm_b (m := 1) (fun j _ => by split <;> omega)) (by decide)
theorem zz_br_le (S : Nat → Nat) : zz_br S ≤ 81 := Nat.le_trans (zz_sm_b (m := 1) (fun j _ => by split <;> omega)) (by decide)
theorem zm_broken (hM : zz_Pm S v) (hr : ∀ c, c < 81 → S (7 + c) < 3) (hK : 100 ≤ K) : f_X13_broken K v = some (nI (zz_br S)) := by
  rw [f_X13_broken]
  have h : f_X13_broken_L4 v K 0 0 = some (nI (zz_br S)) := by
    refine zz_for0 (fun K i (s : Int32) => f_X13_broken_L4 v K s (nI i)) 81 (fun i s => s = nI (zz_sm (fun c => if S (7 + c) = 2 then 1 else 0) i)) (fun o => o = some (nI (zz_br S))) ?_ ?_ K 0 (by omega) rfl
    · intro k s h
      show f_X13_broken_L4 v (k + 1) s (nI 81) = _
      rw [f_X13_broken_L4, if_pos (by decide), h]
      rfl
    · intro k i s hi h ih
      show f_X13_broken_L4 v (k + 1) s (nI i) = _
      have := hr i hi
      rw [f_X13_broken_L4, zz_l81, if_neg (nI_ge hi (by decide)), zz_l7, nI_add, zz_g (by omega) (by decide), nI_clamp (by omega), hM _ (by omega), nI_1, h, nI_1]
      by_cases e : S (7 + i) = 2
      · rw [e, if_pos (by first | rfl | decide)]
        refine ih _ ?_
        show _ = nI (_ + if S (7 + i) = 2 then 1 else 0)
        rw [if_pos e]
      · rw [zz_l2, if_neg (zz_ne e (by omega) (by decide))]
        refine ih _ ?_
        show _ = nI (_ + if S (7 + i) = 2 then 1 else 0)
        rw [if_neg e, zz_l0, nI_add]
  rw [h]
  rfl
theorem zp_grow (hK : 2000 ≤ K) (ir : zz_Ir S) (ib : zz_Ib B S) (io : zz_Io S) (pr : zz_Pr S st ct br) (pc : ∀ b, b < S 3 → ce b = nI (zz_c S b)) (hM : zz_Pm S v) (x y : Int32) :
    (∃ c e r, f_X6_growReed K st ct ce (nI (S 3)) x y = some (c, st, ct) ∧ f_X13_grows K 0 v x y = some (r, e, v) ∧ ((c = -1 ∧ e = 1) ∨ (c = -3 ∧ e = 2))) ∨
    (∃ a T st' ct' v', a < 2 ^ 31 ∧ f_X6_growReed K st ct ce (nI (S 3)) x y = some (nI a, st', ct') ∧ f_X13_grows K 0 v x y = some (nI a, 0, v') ∧ zz_Ir T ∧ zz_Io T ∧ (zz_Eb S T ∧ zz_Ep S T ∧ zz_El S T ∧ zz_Ef S T) ∧ zz_Pr T st' ct' br ∧ zz_Pm T v') := by
  obtain ⟨i1, i2, i3⟩ := ir
  obtain ⟨p1, p2, p3⟩ := pr
  have hx : ∀ b, b < S 3 → zz_c S b < 81 := fun b hb => zz_Ib_c ib hb
  have h4 := ib.2.1
  have h0 : v 0 = nI (S 0) := hM 0 (by decide)
  rcases zz_cell x y with ⟨h1, h2⟩ | ⟨a, b, ha, hb, rfl, rfl, h1, h2, h3⟩
  · refine Or.inl ⟨-1, 1, 0, ?_, ?_, Or.inl ⟨rfl, rfl⟩⟩
    · rw [f_X6_growReed, h1]; rfl
    · rw [f_X13_grows, h2]; rfl
  · have hc : 9 * b + a < 81 := by omega
    generalize 9 * b + a = c at *
    have hsc := i3 c hc
    by_cases hs : S (7 + c) = 0
    · cases ht : zz_tk S 99 c with
      | true =>
        refine Or.inl ⟨-3, 2, 0, ?_, ?_, Or.inr ⟨rfl, rfl⟩⟩
        · rw [f_X6_growReed, h1, zz_b, if_neg (zz_n1 (by omega)), zc_stateOf p1 hc, zz_b, hs, if_pos (by first | rfl | decide), zc_occupies hx pc h4 (by omega) hc zz_e99, zz_b, ht, zz_Bt, if_neg (by decide)]
        · rw [f_X13_grows, h2, zz_b, if_neg (by decide), h3, zz_b, zz_l7, nI_add, zz_g (by omega) (by decide), nI_clamp (by omega), hM _ (by omega), hs, if_pos (by first | rfl | decide), zz_b, zm_isTaken hM hx h4 (by omega) hc zz_e99, zz_b, ht, zz_Bt, if_neg (by decide)]
          rfl
      | false =>
        by_cases h30 : S 0 = 30
        · refine Or.inl ⟨-3, 2, 0, ?_, ?_, Or.inr ⟨rfl, rfl⟩⟩
          · rw [f_X6_growReed, h1, zz_b, if_neg (zz_n1 (by omega)), zc_stateOf p1 hc, zz_b, hs, if_pos (by first | rfl | decide), zc_occupies hx pc h4 (by omega) hc zz_e99, zz_b, ht, zz_Bf, if_pos (by first | rfl | decide), p2, h30, if_neg (by decide)]
          · rw [f_X13_grows, h2, zz_b, if_neg (by decide), h3, zz_b, zz_l7, nI_add, zz_g (by omega) (by decide), nI_clamp (by omega), hM _ (by omega), hs, if_pos (by first | rfl | decide), zz_b, zm_isTaken hM hx h4 (by omega) hc zz_e99, zz_b, ht, zz_Bf, if_pos (by first | rfl | decide), h0, h30, if_pos (by decide)]
            rfl
        · refine Or.inr ⟨S 0 + 1, zz_u (zz_u S (7 + c) 1) 0 (S 0 + 1), upd st c 1, nI (S 0 + 1), upd (upd v (7 + c) 1) 0 (nI (S 0 + 1)), by omega, ?_, ?_, ?_⟩
          · rw [f_X6_growReed, h1, zz_b, if_neg (zz_n1 (by omega)), zc_stateOf p1 hc, zz_b, hs, if_pos (by first | rfl | decide), zc_occupies hx pc h4 (by omega) hc zz_e99, zz_b, ht, zz_Bf, if_pos (by first | rfl | decide), p2, zz_l30, if_pos (nI_lt (by omega) (by decide)), f_X9_grow, zz_g hc (by decide), zz_b, nI_clamp (by omega), nI_1]
          · rw [f_X13_grows, h2, zz_b, if_neg (by decide), h3, zz_b, zz_l7, nI_add, zz_g (by omega) (by decide), nI_clamp (by omega), hM _ (by omega), hs, if_pos (by first | rfl | decide), zz_b, zm_isTaken hM hx h4 (by omega) hc zz_e99, zz_b, ht, zz_Bf, if_pos (by first | rfl | decide), h0, zz_l30, if_neg (zz_ne h30 (by omega) (by decide)), zz_b, nI_add, zz_g (by omega) (by decide), nI_clamp (by omega), pk_us, pk_un (by omega), h0, nI_1]
          · have hT : ∀ k, k ≠ 0 → k ≠ 7 + c → zz_u (zz_u S (7 + c) 1) 0 (S 0 + 1) k = S k := fun k hk hk2 => by rw [zz_un _ _ hk, zz_un _ _ hk2]
            have hTc : zz_u (zz_u S (7 + c) 1) 0 (S 0 + 1) (7 + c) = 1 := by rw [zz_un _ _ (by omega), zz_us]
            have hT0 : zz_u (zz_u S (7 + c) 1) 0 (S 0 + 1) 0 = S 0 + 1 := zz_us _ _ _
            have hPm : zz_Pm (zz_u (zz_u S (7 + c) 1) 0 (S 0 + 1)) (upd (upd v (7 + c) 1) 0 (nI (S 0 + 1))) := zz_Pm_u (zz_Pm_u hM (7 + c) 1) 0 (S 0 + 1)
            generalize zz_u (zz_u S (7 + c) 1) 0 (S 0 + 1) = T at *
            obtain ⟨hcn, hbr⟩ := zz_rch (T := T) (S := S) hc (fun j hj hn => hT _ (by omega) (by omega))
            rw [hs, hTc] at hcn hbr
            rw [if_pos (by first | rfl | decide), if_neg (by decide)] at hcn
            rw [if_neg (by decide), if_neg (by decide)] at hbr
            refine ⟨⟨by omega, by omega, fun j hj => ?_⟩, fun j hj => ?_, zz_Ex_r (fun k h hk => hT k h (by omega)), ⟨fun j hj => ?_, by rw [hT0], by rw [p3, show zz_br T = zz_br S by omega]⟩, hPm⟩
            · by_cases e : j = c
              · rw [e, hTc]; decide
              · rw [hT _ (by omega) (by omega)]; exact i3 j hj
            · have e3 : T 3 = S 3 := hT 3 (by decide) (by omega)
              rw [e3] at hj
              have hj4 := zz_Ib_4 ib hj
              have ec : zz_c T j = zz_c S j := by
                unfold zz_c
                rw [hT _ (by omega) (by omega), hT _ (by omega) (by omega)]
              have h81 := hx j hj
              have := io j hj
              have ht2 := zz_an_f.mp ht j hj
              have ht3 := of_decide_eq_false ht2
              have hne : ¬ (zz_c S j = c ∨ zz_i (zz_c S j) = c) := fun q => ht3 ⟨by omega, q⟩
              have h82 := zz_i_lt _ h81
              rw [ec]
              have h5 := of_decide_eq_true this
              refine decide_eq_true ?_
              rw [hT _ (by omega) (by omega), hT _ (by omega) (by omega)]
              exact h5
            · rw [zz_upd]
              by_cases e : j = c
              · rw [if_pos e, e, hTc]; rfl
              · rw [if_neg e, hT _ (by omega) (by omega)]; exact p1 j hj
    · refine Or.inl ⟨-3, 2, 0, ?_, ?_, Or.inr ⟨rfl, rfl⟩⟩
      · rw [f_X6_growReed, h1, zz_b, if_neg (zz_n1 (by omega)), zc_stateOf p1 hc, zz_b, if_neg (nI_ne0 (by omega) (by omega))]
      · rw [f_X13_grows, h2, zz_b, if_neg (by decide), h3, zz_b, zz_l7, nI_add, zz_g (by omega) (by decide), nI_clamp (by omega), hM _ (by omega), if_neg (nI_ne0 (by omega) (by omega))]
        rfl
theorem zz_op_of {c : Nat} (hc : c < 81) (h : ∀ j, j < 81 → T (7 + j) = 1 → S (7 + j) = 1) (ho : zz_op S c = true) : zz_op T c = true := by
  have h5 := of_decide_eq_true ho
  exact decide_eq_true ⟨fun q => h5.1 (h c hc q), fun q => h5.2 (h _ (zz_i_lt c hc) q)⟩
theorem zp_snap (hK : 2000 ≤ K) (ir : zz_Ir S) (ib : zz_Ib B S) (io : zz_Io S) (pr : zz_Pr S st ct br) (hM : zz_Pm S v) (x y : Int32) :
    (∃ c e r, f_X6_snapReed st br x y = some (c, st, br) ∧ f_X13_breaks K 0 v x y = some (r, e, v) ∧ ((c = -1 ∧ e = 1) ∨ (c = -2 ∧ e = 2) ∨ (c = -3 ∧ e = 3))) ∨
    (∃ a T st' br' v', a < 2 ^ 31 ∧ f_X6_snapReed st br x y = some (nI a, st', br') ∧ f_X13_breaks K 0 v x y = some (nI a, 0, v') ∧ zz_Ir T ∧ zz_Io T ∧ (zz_Eb S T ∧ zz_Ep S T ∧ zz_El S T ∧ zz_Ef S T) ∧ zz_Pr T st' ct br' ∧ zz_Pm T v') := by
  obtain ⟨i1, i2, i3⟩ := ir
  obtain ⟨p1, p2, p3⟩ := pr
  rcases zz_cell x y with ⟨h1, h2⟩ | ⟨a, b, ha, hb, rfl, rfl, h1, h2, h3⟩
  · refine Or.inl ⟨-1, 1, 0, ?_, ?_, Or.inl ⟨rfl, rfl⟩⟩
    · rw [f_X6_snapReed, h1]; rfl
    · rw [f_X13_breaks, h2]; rfl
  · have hc : 9 * b + a < 81 := by omega
    generalize 9 * b + a = c at *
    have hsc := i3 c hc
    by_cases hs : S (7 + c) = 0
    · refine Or.inl ⟨-2, 2, 0, ?_, ?_, Or.inr (Or.inl ⟨rfl, rfl⟩)⟩
      · rw [f_X6_snapReed, h1, zz_b, if_neg (zz_n1 (by omega)), zc_stateOf p1 hc, zz_b, hs, if_pos (by first | rfl | decide)]
      · rw [f_X13_breaks, h2, zz_b, if_neg (by decide), h3, zz_b, zz_l7, nI_add, zz_g (by omega) (by decide), nI_clamp (by omega), hM _ (by omega), hs, if_pos (by first | rfl | decide)]
        rfl
    · by_cases hs2 : S (7 + c) = 2
      · refine Or.inl ⟨-3, 3, 0, ?_, ?_, Or.inr (Or.inr ⟨rfl, rfl⟩)⟩
        · rw [f_X6_snapReed, h1, zz_b, if_neg (zz_n1 (by omega)), zc_stateOf p1 hc, zz_b, if_neg (nI_ne0 (by omega) (by omega)), zz_b, hs2, if_pos (by first | rfl | decide)]
        · rw [f_X13_breaks, h2, zz_b, if_neg (by decide), h3, zz_b, zz_l7, nI_add, zz_g (by omega) (by decide), nI_clamp (by omega), hM _ (by omega), if_neg (nI_ne0 (by omega) (by omega)), hs2, if_pos (by first | rfl | decide)]
          rfl
      · have hT : ∀ k, k ≠ 7 + c → zz_u S (7 + c) 2 k = S k := fun k hk => by rw [zz_un _ _ hk]
        have hTc : zz_u S (7 + c) 2 (7 + c) = 2 := zz_us _ _ _
        have hPm : zz_Pm (zz_u S (7 + c) 2) (upd v (7 + c) 2) := zz_Pm_u hM (7 + c) 2
        generalize zz_u S (7 + c) 2 = T at *
        obtain ⟨hcn, hbr⟩ := zz_rch (T := T) (S := S) hc (fun j hj hn => hT _ (by omega))
        rw [hTc, if_neg hs, if_neg (by decide)] at hcn
        rw [hTc, if_neg hs2, if_pos (by first | rfl | decide)] at hbr
        have hb2 := zz_br_le T
        have hr3 : ∀ j, j < 81 → T (7 + j) < 3 := by
          intro j hj
          by_cases e : j = c
          · rw [e, hTc]; decide
          · rw [hT _ (by omega)]; exact i3 j hj
        have h0 : T 0 = S 0 := hT 0 (by omega)
        refine Or.inr ⟨zz_br T, T, upd st c 2, nI (zz_br T), upd v (7 + c) 2, by omega, ?_, ?_, ⟨by omega, by omega, hr3⟩, fun j hj => ?_, zz_Ex_r (fun k h hk => hT k (by omega)), ⟨fun j hj => ?_, by rw [h0]; exact p2, rfl⟩, hPm⟩
        · rw [f_X6_snapReed, h1, zz_b, if_neg (zz_n1 (by omega)), zc_stateOf p1 hc, zz_b, if_neg (nI_ne0 (by omega) (by omega)), zz_b, zz_l2, if_neg (zz_ne hs2 (by omega) (by decide)), f_X9_snap, zz_g hc (by decide), zz_b, nI_clamp (by omega), p3, nI_1, show zz_br T = zz_br S + 1 by omega]
          rfl
        · rw [f_X13_breaks, h2, zz_b, if_neg (by decide), h3, zz_b, zz_l7, nI_add, zz_g (by omega) (by decide), nI_clamp (by omega), hM _ (by omega), if_neg (nI_ne0 (by omega) (by omega)), zz_l2, if_neg (zz_ne hs2 (by omega) (by decide)), zz_b, nI_add, zz_g (by omega) (by decide), nI_clamp (by omega)]
          have h9 := zm_broken (K := K) hPm hr3 (by omega)
          rw [zz_l2] at h9
          rw [h9]
          rfl
        · have e3 : T 3 = S 3 := hT 3 (by omega)
          rw [e3] at hj
          have hj4 := zz_Ib_4 ib hj
          have ec : zz_c T j = zz_c S j := by
            unfold zz_c
            rw [hT _ (by omega), hT _ (by omega)]
          rw [ec]
          refine zz_op_of (zz_Ib_c ib hj) (fun i hi q => ?_) (io j hj)
          by_cases e : i = c
          · rw [e, hTc] at q; cases q
          · rw [hT _ (by omega)] at q; exact q
        · rw [zz_upd]
          by_cases e : j = c
          · rw [if_pos e, e, hTc]; rfl
          · rw [if_neg e, hT _ (by omega)]; exact p1 j hj
theorem zp_cut (ir : zz_Ir S) (ib : zz_Ib B S) (io : zz_Io S) (pr : zz_Pr S st ct br) (hM : zz_Pm S v) (x y : Int32) :
    (∃ c e r, f_X6_cutReed st ct br x y = some (c, st, ct, br) ∧ f_X13_clears 0 v x y = some (r, e, v) ∧ ((c = -1 ∧ e = 1) ∨ (c = -2 ∧ e = 2))) ∨
    (∃ a T st' ct' br' v', a < 2 ^ 31 ∧ f_X6_cutReed st ct br x y = some (nI a, st', ct', br') ∧ f_X13_clears 0 v x y = some (nI a, 0, v') ∧ zz_Ir T ∧ zz_Io T ∧ (zz_Eb S T ∧ zz_Ep S T ∧ zz_El S T ∧ zz_Ef S T) ∧ zz_Pr T st' ct' br' ∧ zz_Pm T v') := by
  obtain ⟨i1, i2, i3⟩ := ir
  obtain ⟨p1, p2, p3⟩ := pr
  have h0 : v 0 = nI (S 0) := hM 0 (by decide)
  rcases zz_cell x y with ⟨h1, h2⟩ | ⟨a, b, ha, hb, rfl, rfl, h1, h2, h3⟩
  · refine Or.inl ⟨-1, 1, 0, ?_, ?_, Or.inl ⟨rfl, rfl⟩⟩
    · rw [f_X6_cutReed, h1]; rfl
    · rw [f_X13_clears, h2]; rfl
  · have hc : 9 * b + a < 81 := by omega
    generalize 9 * b + a = c at *
    have hsc := i3 c hc
    by_cases hs : S (7 + c) = 0
    · refine Or.inl ⟨-2, 2, 0, ?_, ?_, Or.inr ⟨rfl, rfl⟩⟩
      · rw [f_X6_cutReed, h1, zz_b, if_neg (zz_n1 (by omega)), zc_stateOf p1 hc, zz_b, hs, if_pos (by first | rfl | decide)]
      · rw [f_X13_clears, h2, zz_b, if_neg (by decide), h3, zz_b, zz_l7, nI_add, zz_g (by omega) (by decide), nI_clamp (by omega), hM _ (by omega), hs, if_pos (by first | rfl | decide)]
        rfl
    · have hcn0 : 1 ≤ S 0 := by
        rw [i1]
        have := zz_sm_i (f := fun c => if S (7 + c) = 0 then 0 else 1) (n := 81) hc
        have h9 : (if S (7 + c) = 0 then 0 else 1) ≤ zz_cn S := this
        rw [if_neg hs] at h9
        exact h9
      have hT : ∀ k, k ≠ 0 → k ≠ 7 + c → zz_u (zz_u S (7 + c) 0) 0 (S 0 - 1) k = S k := fun k hk hk2 => by rw [zz_un _ _ hk, zz_un _ _ hk2]
      have hTc : zz_u (zz_u S (7 + c) 0) 0 (S 0 - 1) (7 + c) = 0 := by rw [zz_un _ _ (by omega), zz_us]
      have hT0 : zz_u (zz_u S (7 + c) 0) 0 (S 0 - 1) 0 = S 0 - 1 := zz_us _ _ _
      have hPm : zz_Pm (zz_u (zz_u S (7 + c) 0) 0 (S 0 - 1)) (upd (upd v (7 + c) 0) 0 (nI (S 0 - 1))) := zz_Pm_u (zz_Pm_u hM (7 + c) 0) 0 (S 0 - 1)
      generalize zz_u (zz_u S (7 + c) 0) 0 (S 0 - 1) = T at *
      obtain ⟨hcn, hbr⟩ := zz_rch (T := T) (S := S) hc (fun j hj hn => hT _ (by omega) (by omega))
      rw [hTc, if_neg hs, if_pos (by first | rfl | decide)] at hcn
      rw [hTc] at hbr
      have hb2 := zz_br_le S
      refine Or.inr ⟨S 0 - 1, T, upd st c 0, nI (S 0 - 1), nI (zz_br T), upd (upd v (7 + c) 0) 0 (nI (S 0 - 1)), by omega, ?_, ?_, ⟨by omega, by omega, fun j hj => ?_⟩, fun j hj => ?_, zz_Ex_r (fun k h hk => hT k h (by omega)), ⟨fun j hj => ?_, by rw [hT0], rfl⟩, hPm⟩
      · rw [f_X6_cutReed, h1, zz_b, if_neg (zz_n1 (by omega)), zc_stateOf p1 hc, zz_b, if_neg (nI_ne0 (by omega) (by omega)), f_X9_cut, zz_g hc (by decide), zz_g hc (by decide), zz_g hc (by decide), nI_clamp (by omega), p1 c hc, p2, p3, zz_l1, zz_l2, zz_l0, pk_sub hcn0]
        by_cases e : S (7 + c) = 2
        · rw [if_pos e, if_neg (by decide)] at hbr
          rw [e, if_pos (by first | rfl | decide), zz_b, pk_sub (by omega), show zz_br T = zz_br S - 1 by omega]
        · rw [if_neg e, if_neg (by decide)] at hbr
          rw [if_neg (zz_ne e (by omega) (by decide)), zz_b, pk_sub (by omega), show zz_br T = zz_br S - 0 by omega]
      · rw [f_X13_clears, h2, zz_b, if_neg (by decide), h3, zz_b, zz_l7, nI_add, zz_g (by omega) (by decide), nI_clamp (by omega), hM _ (by omega), if_neg (nI_ne0 (by omega) (by omega)), zz_b, nI_add, zz_g (by omega) (by decide), nI_clamp (by omega), pk_us, pk_un (by omega), h0, zz_l1, pk_sub hcn0]
      · by_cases e : j = c
        · rw [e, hTc]; decide
        · rw [hT _ (by omega) (by omega)]; exact i3 j hj
      · have e3 : T 3 = S 3 := hT 3 (by omega) (by omega)
        rw [e3] at hj
        have hj4 := zz_Ib_4 ib hj
        have ec : zz_c T j = zz_c S j := by
          unfold zz_c
          rw [hT _ (by omega) (by omega), hT _ (by omega) (by omega)]
        rw [ec]
        refine zz_op_of (zz_Ib_c ib hj) (fun i hi q => ?_) (io j hj)
        by_cases e : i = c
        · rw [e, hTc] at q; cases q
        · rw [hT _ (by omega) (by omega)] at q; exact q
      · rw [zz_upd]
        by_cases e : j = c
        · rw [if_pos e, e, hTc]; rfl
        · rw [if_neg e, hT _ (by omega) (by omega)]; exact p1 j hj
theorem zp_fog (hf : zz_If S) (pf : zz_Pf S fg) (hM : zz_Pm S v) (x : Int32) :
    (∃ c e r, f_X6_moveFog fg x = some (c, fg) ∧ f_X13_fogs 0 v x = some (r, e, v) ∧ (c = -4 ∧ e = 1)) ∨
    (∃ a T fg' v', a < 2 ^ 31 ∧ f_X6_moveFog fg x = some (nI a, fg') ∧ f_X13_fogs 0 v x = some (nI a, 0, v') ∧ zz_If T ∧ (zz_Er S T ∧ zz_Eb S T ∧ zz_Ep S T ∧ zz_El S T) ∧ zz_Pf T fg' ∧ zz_Pm T v') := by
  have h1 : v 1 = nI (S 1) := hM 1 (by decide)
  have e2 : (2 : Int32) = nI 3 - 1 := by decide
  unfold f_X6_moveFog f_X13_fogs
  rw [e2]
  rcases zz_ix x (n := 3) (by decide) with ⟨g1, g2⟩ | ⟨g1, g2, g3, g4, g5, g6⟩ | ⟨a, ha, rfl⟩
  · refine Or.inl ⟨-4, 1, 0, ?_, ?_, rfl, rfl⟩
    · rw [if_pos g1]
    · rw [f_X13_isIn, if_pos g1]; rfl
  · refine Or.inl ⟨-4, 1, 0, ?_, ?_, rfl, rfl⟩
    · rw [if_neg g1, if_neg g6]
    · rw [f_X13_isIn, if_neg g1, if_pos g5]; rfl
  · have hle : nI a ≤ nI 3 - 1 := by
      rw [show nI 3 - 1 = nI 2 by decide]
      exact nI_le (by omega) (by decide)
    have hlt : ¬ nI 3 - 1 < nI a := by
      rw [show nI 3 - 1 = nI 2 by decide]
      exact nI_nlt (by omega) (by omega)
    have hf2 : S 1 ≤ 2 := hf
    refine Or.inr ⟨S 1, zz_u S 1 a, nI a, upd v 1 (nI a), by omega, ?_, ?_, ?_, zz_Ex_f (fun k hk => zz_un _ _ hk), ?_, zz_Pm_u hM 1 a⟩
    · rw [if_neg (nI_pos (by omega)), if_pos hle, pf]
    · rw [f_X13_isIn, if_neg (nI_pos (by omega)), if_neg hlt, zz_b, if_neg (by decide), h1]
    · unfold zz_If
      rw [zz_us]
      omega
    · unfold zz_Pf
      rw [zz_us]
end ZR
