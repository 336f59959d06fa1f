/-- boats: launched and dismissed, on both sides -/
theorem zm_of0 (b : Nat) : f_X13_of (nI b) 0 = some (nI (88 + 4 * b)) := zm_of b 0
theorem zm_of1 (b : Nat) : f_X13_of (nI b) 1 = some (nI (89 + 4 * b)) := zm_of b 1
theorem zm_of2 (b : Nat) : f_X13_of (nI b) 2 = some (nI (90 + 4 * b)) := zm_of b 2
theorem zm_of3 (b : Nat) : f_X13_of (nI b) 3 = some (nI (91 + 4 * b)) := zm_of b 3
theorem zz_sm_sh {f g : Nat → Nat} {p : Nat} : ∀ {n : Nat}, p ≤ n → (∀ j, j < p → g j = f j) → (∀ j, p ≤ j → j < n → g j = f (j + 1)) → zz_sm g n + f p = zz_sm f (n + 1)
  | 0, h, _, _ => by
    have : p = 0 := by omega
    subst this
    rfl
  | n + 1, h, h1, h2 => by
    by_cases e : p = n + 1
    · subst e
      rw [zz_sm_c (g := f) (n := n + 1) (fun j hj => h1 j hj)]
      rfl
    · have := zz_sm_sh (f := f) (g := g) (p := p) (n := n) (by omega) h1 (fun j hj hj2 => h2 j hj (by omega))
      have := h2 n (by omega) (by omega)
      show zz_sm g n + g n + f p = zz_sm f (n + 1) + f (n + 1)
      omega
section ZF
variable {S T : Nat → Nat} {B K : Nat} {st nu ce fa : Nat → Int32} {fc nx to re me : Int32} {v : Nat → Int32}
theorem zz_fs_le (i : zz_Ib B S) {b : Nat} (hb : b < S 3) : S (91 + 4 * b) ≤ zz_fs S := zz_sm_i (f := fun b => S (91 + 4 * b)) hb
theorem zp_launch (hK : 2000 ≤ K) (hB : B ≤ 1000000) (hs : ∀ c, c < 81 → st c = nI (S (7 + c))) (ir : zz_Ir S) (ib : zz_Ib B S) (io : zz_Io S) (pb : zz_Pb S nu ce fa fc nx to re me) (hM : zz_Pm S v) (x y : Int32) :
    (∃ c e r, f_X6_launchBoat K st nu ce fa fc nx x y = some (c, nu, ce, fa, fc, nx) ∧ f_X13_boats K 0 v x y = some (r, e, v) ∧ ((c = -1 ∧ e = 1) ∨ (c = -3 ∧ e = 2) ∨ (c = -5 ∧ e = 3))) ∨
    (∃ a T nu' ce' fa' fc' nx' v', a < 2 ^ 31 ∧ f_X6_launchBoat K st nu ce fa fc nx x y = some (nI a, nu', ce', fa', fc', nx') ∧ f_X13_boats K 0 v x y = some (nI a, 0, v') ∧ zz_Ib (B + 1) T ∧ zz_Io T ∧ (zz_Er S T ∧ zz_Ep S T ∧ zz_El S T ∧ zz_Ef S T) ∧ zz_Pb T nu' ce' fa' fc' nx' to re me ∧ zz_Pm T v') := by
  obtain ⟨p1, p2, p3, rfl, rfl, p6, p7, p8⟩ := pb
  have i3 := ir.2.2
  have hx : ∀ b, b < S 3 → zz_c S b < 81 := fun b hb => zz_Ib_c ib hb
  have h4 := ib.2.1
  have hv3 : v 3 = nI (S 3) := hM 3 (by decide)
  have hv2 : v 2 = nI (S 2) := hM 2 (by decide)
  have hB2 := ib.1
  rcases zz_cell x y with ⟨h1, h2⟩ | ⟨a, b, ha, hb, rfl, rfl, h1, h2, h3⟩
  · refine Or.inl ⟨-1, 1, 0, ?_, ?_, Or.inl ⟨rfl, rfl⟩⟩
    · rw [f_X6_launchBoat, h1]; rfl
    · rw [f_X13_boats, h2]; rfl
  · have hc : 9 * b + a < 81 := by omega
    have hcd : ∀ d, d = 9 * b + a → d < 81 := fun d hd => by omega
    by_cases h44 : S 3 = 4
    · refine Or.inl ⟨-3, 2, 0, ?_, ?_, Or.inr (Or.inl ⟨rfl, rfl⟩)⟩
      · rw [f_X6_launchBoat, h1, zz_b, if_neg (zz_n1 (by omega)), h44, if_neg (by decide)]
      · rw [f_X13_boats, h2, zz_b, if_neg (by decide), hv3, h44, if_pos (by decide)]
        rfl
    · have h43 : S 3 < 4 := by omega
      cases ho : zz_op S (9 * b + a) with
      | false =>
        refine Or.inl ⟨-5, 3, 0, ?_, ?_, Or.inr (Or.inr ⟨rfl, rfl⟩)⟩
        · rw [f_X6_launchBoat, h1, zz_b, if_neg (zz_n1 (by omega)), zz_l4, if_pos (nI_lt h43 (by decide)), zc_isOpen hs i3 hc, zz_b, ho, zz_Bf, if_pos (by first | rfl | decide)]
        · rw [f_X13_boats, h2, zz_b, if_neg (by decide), hv3, zz_l4, if_neg (zz_ne h44 (by omega) (by decide)), h3, zz_b, zm_isFree hM i3 hc, zz_b, ho, zz_Bf, if_pos (by first | rfl | decide)]
          rfl
      | true =>
        cases ht : zz_tk S 99 (9 * b + a) with
        | true =>
          refine Or.inl ⟨-5, 3, 0, ?_, ?_, Or.inr (Or.inr ⟨rfl, rfl⟩)⟩
          · rw [f_X6_launchBoat, h1, zz_b, if_neg (zz_n1 (by omega)), zz_l4, if_pos (nI_lt h43 (by decide)), zc_isOpen hs i3 hc, zz_b, ho, zz_Bt, if_neg (by decide), zc_occupies hx p2 h4 (by omega) hc zz_e99, zz_b, ht, zz_Bt, if_neg (by decide)]
          · rw [f_X13_boats, h2, zz_b, if_neg (by decide), hv3, zz_l4, if_neg (zz_ne h44 (by omega) (by decide)), h3, zz_b, zm_isFree hM i3 hc, zz_b, ho, zz_Bt, if_neg (by decide), zz_b, zm_isTaken hM hx h4 (by omega) hc zz_e99, zz_b, ht, zz_Bt, if_neg (by decide)]
            rfl
        | false =>
          generalize hn : S 3 = n at *
          generalize hm : S 2 = m at *
          have hT : ∀ k, k ≠ 2 → k ≠ 3 → k ≠ 88 + 4 * n → k ≠ 89 + 4 * n → k ≠ 90 + 4 * n → k ≠ 91 + 4 * n → zz_u (zz_u (zz_u (zz_u (zz_u (zz_u S (88 + 4 * n) m) (89 + 4 * n) a) (90 + 4 * n) b) (91 + 4 * n) 0) 3 (n + 1)) 2 (m + 1) k = S k := by
            intro k h1 h2 h3 h4 h5 h6
            rw [zz_un _ _ h1, zz_un _ _ h2, zz_un _ _ h6, zz_un _ _ h5, zz_un _ _ h4, zz_un _ _ h3]
          have hT2 : zz_u (zz_u (zz_u (zz_u (zz_u (zz_u S (88 + 4 * n) m) (89 + 4 * n) a) (90 + 4 * n) b) (91 + 4 * n) 0) 3 (n + 1)) 2 (m + 1) 2 = m + 1 := zz_us _ _ _
          have hT3 : zz_u (zz_u (zz_u (zz_u (zz_u (zz_u S (88 + 4 * n) m) (89 + 4 * n) a) (90 + 4 * n) b) (91 + 4 * n) 0) 3 (n + 1)) 2 (m + 1) 3 = n + 1 := by rw [zz_un _ _ (by decide), zz_us]
          have hTn : zz_u (zz_u (zz_u (zz_u (zz_u (zz_u S (88 + 4 * n) m) (89 + 4 * n) a) (90 + 4 * n) b) (91 + 4 * n) 0) 3 (n + 1)) 2 (m + 1) (88 + 4 * n) = m := by rw [zz_un _ _ (by omega), zz_un _ _ (by omega), zz_un _ _ (by omega), zz_un _ _ (by omega), zz_un _ _ (by omega), zz_us]
          have hTx : zz_u (zz_u (zz_u (zz_u (zz_u (zz_u S (88 + 4 * n) m) (89 + 4 * n) a) (90 + 4 * n) b) (91 + 4 * n) 0) 3 (n + 1)) 2 (m + 1) (89 + 4 * n) = a := by rw [zz_un _ _ (by omega), zz_un _ _ (by omega), zz_un _ _ (by omega), zz_un _ _ (by omega), zz_us]
          have hTy : zz_u (zz_u (zz_u (zz_u (zz_u (zz_u S (88 + 4 * n) m) (89 + 4 * n) a) (90 + 4 * n) b) (91 + 4 * n) 0) 3 (n + 1)) 2 (m + 1) (90 + 4 * n) = b := by rw [zz_un _ _ (by omega), zz_un _ _ (by omega), zz_un _ _ (by omega), zz_us]
          have hTf : zz_u (zz_u (zz_u (zz_u (zz_u (zz_u S (88 + 4 * n) m) (89 + 4 * n) a) (90 + 4 * n) b) (91 + 4 * n) 0) 3 (n + 1)) 2 (m + 1) (91 + 4 * n) = 0 := by rw [zz_un _ _ (by omega), zz_un _ _ (by omega), zz_us]
          have hPm : zz_Pm (zz_u (zz_u (zz_u (zz_u (zz_u (zz_u S (88 + 4 * n) m) (89 + 4 * n) a) (90 + 4 * n) b) (91 + 4 * n) 0) 3 (n + 1)) 2 (m + 1)) (upd (upd (upd (upd (upd (upd v (88 + 4 * n) (nI m)) (89 + 4 * n) (nI a)) (90 + 4 * n) (nI b)) (91 + 4 * n) (nI 0)) 3 (nI (n + 1))) 2 (nI (m + 1))) := zz_Pm_u (zz_Pm_u (zz_Pm_u (zz_Pm_u (zz_Pm_u (zz_Pm_u hM _ _) _ _) _ _) _ _) _ _) _ _
          generalize zz_u (zz_u (zz_u (zz_u (zz_u (zz_u S (88 + 4 * n) m) (89 + 4 * n) a) (90 + 4 * n) b) (91 + 4 * n) 0) 3 (n + 1)) 2 (m + 1) = T at *
          have hE := zz_Ex_b (S := S) (T := T) (fun k h1 h2 h3 h4 h5 => hT k h1 h2 (by omega) (by omega) (by omega) (by omega))
          have hTc : zz_c T n = 9 * b + a := by unfold zz_c; rw [hTx, hTy]
          have hTj : ∀ j, j < n → T (88 + 4 * j) = S (88 + 4 * j) ∧ T (89 + 4 * j) = S (89 + 4 * j) ∧ T (90 + 4 * j) = S (90 + 4 * j) ∧ T (91 + 4 * j) = S (91 + 4 * j) ∧ zz_c T j = zz_c S j := by
            intro j hj
            have e1 := hT (89 + 4 * j) (by omega) (by omega) (by omega) (by omega) (by omega) (by omega)
            have e2 := hT (90 + 4 * j) (by omega) (by omega) (by omega) (by omega) (by omega) (by omega)
            exact ⟨hT _ (by omega) (by omega) (by omega) (by omega) (by omega) (by omega), e1, e2, hT _ (by omega) (by omega) (by omega) (by omega) (by omega) (by omega), by unfold zz_c; rw [e1, e2]⟩
          have hfs : zz_fs T = zz_fs S := by
            unfold zz_fs
            rw [hT3, hn]
            show zz_sm _ n + T (91 + 4 * n) = _
            rw [hTf, zz_sm_c (g := fun b => S (91 + 4 * b)) (fun j hj => (hTj j hj).2.2.2.1)]
            rfl
          have h5 : T 5 = S 5 := hT 5 (by decide) (by decide) (by omega) (by omega) (by omega) (by omega)
          have h6 : T 6 = S 6 := hT 6 (by decide) (by decide) (by omega) (by omega) (by omega) (by omega)
          obtain ⟨j1, j2, j3, j4, j5⟩ := ib
          rw [hn] at j5
          refine Or.inr ⟨m, T, upd nu n (nI m), upd ce n (nI (9 * b + a)), upd fa n (nI 0), nI (n + 1), nI (m + 1), _, by omega, ?_, ?_, ⟨by omega, by omega, by rw [hfs, h5]; omega, by rw [h6]; omega, fun j hj => ?_⟩, fun j hj => ?_, hE, ⟨fun j hj => ?_, fun j hj => ?_, fun j hj => ?_, by rw [hT3], by rw [hT2], by rw [hfs, h5]; exact p6, by rw [h5]; exact p7, by rw [h6]; exact p8⟩, hPm⟩
          · rw [f_X6_launchBoat, h1, zz_b, if_neg (zz_n1 (by omega)), zz_l4, if_pos (nI_lt h43 (by decide)), zc_isOpen hs i3 hc, zz_b, ho, zz_Bt, if_neg (by decide)]
            have h9 := zc_occupies (S := S) (K := K) (ce := ce) (by rw [hn]; exact hx) (by rw [hn]; exact p2) (by omega) (by omega) hc zz_e99
            rw [hn] at h9
            rw [h9, zz_b, ht, zz_Bf, if_pos (by first | rfl | decide), f_X3_launch, zz_l4, if_neg (nI_ge h43 (by decide)), zz_g h43 (by decide), zz_g h43 (by decide), zz_g h43 (by decide), nI_clamp (by omega), zz_b, nI_1, nI_1]
            rfl
          · rw [f_X13_boats, h2, zz_b, if_neg (by decide), hv3, zz_l4, if_neg (zz_ne h44 (by omega) (by decide)), h3, zz_b, zm_isFree hM i3 hc, zz_b, ho, zz_Bt, if_neg (by decide), zz_b]
            have h9 := zm_isTaken (S := S) (K := K) hM (by rw [hn]; exact hx) (by omega) (by omega) hc zz_e99
            rw [h9, zz_b, ht, zz_Bf, if_pos (by first | rfl | decide), zm_of0, zz_b, zz_g (by omega) (by decide), zm_of1, zz_b, zz_g (by omega) (by decide), zm_of2, zz_b, zz_g (by omega) (by decide), zm_of3, zz_b, zz_g (by omega) (by decide), zz_b, zz_g (by omega) (by decide), nI_clamp (by omega), nI_clamp (by omega), nI_clamp (by omega), nI_clamp (by omega), hv2]
            rw [show upd (upd (upd (upd v (88 + 4 * n) (nI m)) (89 + 4 * n) (nI a)) (90 + 4 * n) (nI b)) (91 + 4 * n) 0 3 = nI n by rw [pk_un (by omega), pk_un (by omega), pk_un (by omega), pk_un (by omega), hv3], nI_1]
            rw [show upd (upd (upd (upd (upd v (88 + 4 * n) (nI m)) (89 + 4 * n) (nI a)) (90 + 4 * n) (nI b)) (91 + 4 * n) 0) 3 (nI (n + 1)) 2 = nI m by rw [pk_un (by decide), pk_un (by omega), pk_un (by omega), pk_un (by omega), pk_un (by omega), hv2], nI_1]
            rw [pk_un (by omega), pk_un (by omega), pk_un (by omega), pk_un (by omega), pk_un (by omega), pk_us]
            rfl
          · by_cases e : j = n
            · rw [e, hTx, hTy, hTn]; omega
            · obtain ⟨e1, e2, e3, e4, e5⟩ := hTj j (by omega)
              have := j5 j (by omega)
              rw [e1, e2, e3]; omega
          · by_cases e : j = n
            · rw [e, hTc, zz_Er_op hE.1 hc]; exact ho
            · have hj2 : j < n := by omega
              rw [(hTj j hj2).2.2.2.2, zz_Er_op hE.1 (hx j hj2)]
              exact io j (by omega)
          · rw [zz_upd]
            by_cases e : j = n
            · rw [if_pos e, e, hTn]
            · rw [if_neg e, (hTj j (by omega)).1]; exact p1 j (by omega)
          · rw [zz_upd]
            by_cases e : j = n
            · rw [if_pos e, e, hTc]
            · rw [if_neg e, (hTj j (by omega)).2.2.2.2]; exact p2 j (by omega)
          · rw [zz_upd]
            by_cases e : j = n
            · rw [if_pos e, e, hTf]
            · rw [if_neg e, (hTj j (by omega)).2.2.2.1]; exact p3 j (by omega)
end ZF
