/-- sailing on both sides -/
def zz_pa (S : Nat → Nat) (c p : Nat) : Nat → Nat
  | 0 => c
  | k + 1 => match zz_nb (zz_pa S c p k) (S (110 + 20 * p + k)) with
    | some d => d
    | none => zz_pa S c p k
def zz_bk (S : Nat → Nat) (e c p k : Nat) : Bool := match zz_nb (zz_pa S c p k) (S (110 + 20 * p + k)) with
  | some d => !(zz_op S d) || zz_tk S e d
  | none => true
def zz_mt (S : Nat → Nat) (c p : Nat) : Nat → Nat
  | 0 => 0
  | k + 1 => zz_mt S c p k + if zz_pa S c p k % 9 ≠ 4 ∧ zz_pa S c p (k + 1) % 9 = 4 then 1 else 0
def zz_fare (n : Nat) : Nat := if n % 2 = 0 then n + 1 else n
theorem zz_or1 : ∀ n, n < 21 → nI n ||| 1 = nI (zz_fare n) := by decide +kernel
section ZSA
variable {S T : Nat → Nat} {B K : Nat} {st nu ce fa mo le : Nat → Int32} {fc nx to re me : Int32} {v : Nat → Int32} {c p n e : Nat}
theorem zz_pa_y {k d : Nat} (h : zz_nb (zz_pa S c p k) (S (110 + 20 * p + k)) = some d) : zz_pa S c p (k + 1) = d := by
  show (match zz_nb (zz_pa S c p k) (S (110 + 20 * p + k)) with | some d => d | none => zz_pa S c p k) = d
  rw [h]
theorem zz_pa_lt (hc : c < 81) (h4 : ∀ k, k < n → S (110 + 20 * p + k) < 4) : ∀ k, k ≤ n → zz_pa S c p k < 81
  | 0, _ => hc
  | k + 1, hk => by
    have ih := zz_pa_lt hc h4 k (by omega)
    cases h : zz_nb (zz_pa S c p k) (S (110 + 20 * p + k)) with
    | some d =>
      rw [zz_pa_y h]
      exact zz_nb_lt _ ih _ (h4 k (by omega)) d h
    | none =>
      show (match zz_nb (zz_pa S c p k) (S (110 + 20 * p + k)) with | some d => d | none => zz_pa S c p k) < 81
      rw [h]
      exact ih
theorem zz_mt_le : ∀ k, zz_mt S c p k ≤ k
  | 0 => Nat.le_refl _
  | k + 1 => by
    have := zz_mt_le k
    unfold zz_mt
    split <;> omega
theorem zc_blocked (hs : ∀ c, c < 81 → st c = nI (S (7 + c))) (hr : ∀ c, c < 81 → S (7 + c) < 3) (hx : ∀ b, b < S 3 → zz_c S b < 81) (hce : ∀ b, b < S 3 → ce b = nI (zz_c S b)) (h4 : S 3 ≤ 4) (hK : 100 ≤ K) (he : e < S 3) (hp : p < 6) (hn : n ≤ 20) (hl : le p = nI n) (hm : ∀ k, k < n → mo (p * 20 + k) = nI (S (110 + 20 * p + k))) (hm4 : ∀ k, k < n → S (110 + 20 * p + k) < 4) : f_X6_blockedPosition K st ce (nI (S 3)) mo le (nI e) (nI p) = some (zz_o (zz_fi (zz_bk S e (zz_c S e) p) n)) := by
  have hc := hx e he
  have hpl := zz_pa_lt (S := S) (p := p) (n := n) hc hm4
  rw [f_X6_blockedPosition, zz_g (by omega) (by decide), nI_clamp (by omega), hce e he]
  generalize hcc : zz_c S e = c at *
  refine zz_for0 (fun K' i (s : Int32) => f_X6_blockedPosition_L13 K st ce (nI (S 3)) mo le (nI e) (nI p) K' s (nI i)) n (fun i s => s = nI (zz_pa S c p i) ∧ zz_fi (zz_bk S e c p) i = none) (fun o => o = some (zz_o (zz_fi (zz_bk S e c p) n))) ?_ ?_ K (nI c) (by omega) ⟨rfl, rfl⟩
  · intro k s h
    show f_X6_blockedPosition_L13 K st ce (nI (S 3)) mo le (nI e) (nI p) (k + 1) s (nI n) = _
    rw [f_X6_blockedPosition_L13, zz_g hp (by decide), nI_clamp (by omega), hl, if_pos (nI_le (Nat.le_refl _) (by omega)), h.2]
    rfl
  · intro k i s hi h ih
    obtain ⟨rfl, hf⟩ := h
    have h81 := hpl i (by omega)
    show f_X6_blockedPosition_L13 K st ce (nI (S 3)) mo le (nI e) (nI p) (k + 1) (nI (zz_pa S c p i)) (nI i) = _
    rw [f_X6_blockedPosition_L13, zz_g hp (by decide), nI_clamp (by omega), hl, if_neg (nI_ge hi (by omega)), zc_moveIn hp (by omega) (hm i hi), zz_b, zc_neighbour _ h81 _ (hm4 i hi), zz_b]
    cases hn2 : zz_nb (zz_pa S c p i) (S (110 + 20 * p + i)) with
    | none =>
      have hb : zz_bk S e c p i = true := by unfold zz_bk; rw [hn2]
      rw [if_pos (by first | rfl | decide), zz_fi_y hf hb hi]
      rfl
    | some d =>
      have hd := zz_nb_lt _ h81 _ (hm4 i hi) d hn2
      have hbk : zz_bk S e c p i = (!(zz_op S d) || zz_tk S e d) := by unfold zz_bk; rw [hn2]
      show (if nI d = -1 then _ else (f_X9_isOpen st (nI d)).bind _) = _
      rw [if_neg (zz_n1 (by omega)), zc_isOpen hs hr hd, zz_b]
      cases ho : zz_op S d with
      | false =>
        rw [zz_Bf, if_pos (by first | rfl | decide), zz_fi_y hf (by rw [hbk, ho]; rfl) hi]
        rfl
      | true =>
        show (if zz_B true = 0 then _ else (f_X3_occupies K ce (nI (S 3)) (nI d) (nI e)).bind _) = _
        rw [zz_Bt, if_neg (by decide), zc_occupies hx hce h4 (by omega) hd (zz_eb (by omega)), zz_b]
        cases ht : zz_tk S e d with
        | true =>
          rw [zz_Bt, if_neg (by decide), zz_fi_y hf (by rw [hbk, ho, ht]; rfl) hi]
          rfl
        | false =>
          rw [zz_Bf, if_pos (by first | rfl | decide), nI_1]
          exact ih _ ⟨(congrArg nI (zz_pa_y hn2)).symm, zz_fi_n hf (by rw [hbk, ho, ht]; rfl)⟩
theorem zm_bars (hM : zz_Pm S v) (hr : ∀ c, c < 81 → S (7 + c) < 3) (hxy : ∀ b, b < S 3 → S (89 + 4 * b) < 9 ∧ S (90 + 4 * b) < 9) (h4 : S 3 ≤ 4) (hK : 100 ≤ K) (he : e < S 3) (hp : p < 6) (hn : n ≤ 20) (hl : S (104 + p) = n) (hm4 : ∀ k, k < n → S (110 + 20 * p + k) < 4) : ∃ a b m, f_X13_bars K v (nI e) (nI p) = some (zz_o (zz_fi (zz_bk S e (zz_c S e) p) n), a, b, m) ∧ (zz_fi (zz_bk S e (zz_c S e) p) n = none → a = nI (zz_pa S (zz_c S e) p n % 9) ∧ b = nI (zz_pa S (zz_c S e) p n / 9) ∧ m = nI (zz_mt S (zz_c S e) p n)) := by
  have hx : ∀ b, b < S 3 → zz_c S b < 81 := fun b hb => by
    have := hxy b hb
    unfold zz_c
    omega
  have hc := hx e he
  have hpl := zz_pa_lt (S := S) (p := p) (n := n) hc hm4
  have ex : S (89 + 4 * e) = zz_c S e % 9 := by
    have := hxy e he
    unfold zz_c
    omega
  have ey : S (90 + 4 * e) = zz_c S e / 9 := by
    have := hxy e he
    unfold zz_c
    omega
  rw [f_X13_bars, zm_of1, zz_b, zz_g (by omega) (by decide), zm_of2, zz_b, zz_g (by omega) (by decide), nI_clamp (by omega), nI_clamp (by omega), hM _ (by omega), hM _ (by omega), ex, ey]
  generalize hcc : zz_c S e = c at *
  refine zz_for0 (fun K' i (s : Int32 × Int32 × Int32) => f_X13_bars_L35 K v (nI e) (nI p) K' (nI i) s.1 s.2.1 s.2.2) n (fun i s => s = (nI (zz_pa S c p i % 9), nI (zz_pa S c p i / 9), nI (zz_mt S c p i)) ∧ zz_fi (zz_bk S e c p) i = none) (fun o => ∃ a b m, o = some (zz_o (zz_fi (zz_bk S e c p) n), a, b, m) ∧ (zz_fi (zz_bk S e c p) n = none → a = nI (zz_pa S c p n % 9) ∧ b = nI (zz_pa S c p n / 9) ∧ m = nI (zz_mt S c p n))) ?_ ?_ K (nI (c % 9), nI (c / 9), nI 0) (by omega) ⟨rfl, rfl⟩
  · intro k s h
    obtain ⟨rfl, h2⟩ := h
    refine ⟨_, _, _, ?_, fun _ => ⟨rfl, rfl, rfl⟩⟩
    show f_X13_bars_L35 K v (nI e) (nI p) (k + 1) (nI n) _ _ _ = _
    rw [f_X13_bars_L35, zz_l104, nI_add, zz_g (by omega) (by decide), nI_clamp (by omega), hM _ (by omega), hl, if_pos (nI_le (Nat.le_refl _) (by omega)), h2]
    rfl
  · intro k i s hi h ih
    obtain ⟨rfl, hf⟩ := h
    have h81 := hpl i (by omega)
    show ∃ a b m, f_X13_bars_L35 K v (nI e) (nI p) (k + 1) (nI i) (nI (zz_pa S c p i % 9)) (nI (zz_pa S c p i / 9)) (nI (zz_mt S c p i)) = some (_, a, b, m) ∧ _
    rw [f_X13_bars_L35, zz_l104, nI_add, zz_g (by omega) (by decide), nI_clamp (by omega), hM _ (by omega), hl, if_neg (nI_ge hi (by omega)), zm_at, zz_b, zz_g (by omega) (by decide), nI_clamp (by omega), hM _ (by omega)]
    have e9 : 9 * (zz_pa S c p i / 9) + zz_pa S c p i % 9 = zz_pa S c p i := by omega
    cases hn2 : zz_nb (zz_pa S c p i) (S (110 + 20 * p + i)) with
    | none =>
      have hb : zz_bk S e c p i = true := by unfold zz_bk; rw [hn2]
      obtain ⟨a, b, hs⟩ := zm_step_n (x := zz_pa S c p i % 9) (y := zz_pa S c p i / 9) (by omega) (by omega) (hm4 i hi) (by rw [e9]; exact hn2)
      refine ⟨a, b, nI (zz_mt S c p i), ?_, fun q => ?_⟩
      · rw [hs, zz_b, if_pos (by first | rfl | decide), zz_fi_y hf hb hi]
        rfl
      · rw [zz_fi_y hf hb hi] at q
        cases q
    | some d =>
      have hd := zz_nb_lt _ h81 _ (hm4 i hi) d hn2
      have hbk : zz_bk S e c p i = (!(zz_op S d) || zz_tk S e d) := by unfold zz_bk; rw [hn2]
      have hcell : f_X13_cell (nI (d % 9)) (nI (d / 9)) = some (nI d) := by
        rw [f_X13_cell, zz_l9, pk_mul, nI_add, show 9 * (d / 9) + d % 9 = d by omega]
      rw [zm_step_y (x := zz_pa S c p i % 9) (y := zz_pa S c p i / 9) (by omega) (by omega) (hm4 i hi) (by rw [e9]; exact hn2), zz_b]
      show ∃ a b m, (if (1 : Int32) = 0 then _ else (f_X13_cell (nI (d % 9)) (nI (d / 9))).bind _) = some (_, a, b, m) ∧ _
      rw [if_neg (by decide), hcell, zz_b, zm_isFree hM hr hd, zz_b]
      cases ho : zz_op S d with
      | false =>
        refine ⟨nI (d % 9), nI (d / 9), nI (zz_mt S c p i), ?_, fun q => ?_⟩
        · rw [zz_Bf, if_pos (by first | rfl | decide), zz_fi_y hf (by rw [hbk, ho]; rfl) hi]
          rfl
        · rw [zz_fi_y hf (by rw [hbk, ho]; rfl) hi] at q
          cases q
      | true =>
        rw [zz_Bt, if_neg (by decide), zz_b, zm_isTaken hM hx h4 (by omega) hd (zz_eb (by omega)), zz_b]
        cases ht : zz_tk S e d with
        | true =>
          refine ⟨nI (d % 9), nI (d / 9), nI (zz_mt S c p i), ?_, fun q => ?_⟩
          · rw [zz_Bt, if_neg (by decide), zz_fi_y hf (by rw [hbk, ho, ht]; rfl) hi]
            rfl
          · rw [zz_fi_y hf (by rw [hbk, ho, ht]; rfl) hi] at q
            cases q
        | false =>
          rw [zz_Bf, if_pos (by first | rfl | decide), nI_1, nI_1, zz_l0, zz_l4, nI_add]
          have hnext : zz_fi (zz_bk S e c p) (i + 1) = none := zz_fi_n hf (by rw [hbk, ho, ht]; rfl)
          have hpn : zz_pa S c p (i + 1) = d := zz_pa_y hn2
          have hmt : zz_mt S c p (i + 1) = zz_mt S c p i + if zz_pa S c p i % 9 ≠ 4 ∧ d % 9 = 4 then 1 else 0 := by
            rw [← hpn]
            rfl
          by_cases g : zz_pa S c p i % 9 = 4
          · rw [g, if_pos (by first | rfl | decide)]
            refine ih (nI (d % 9), nI (d / 9), nI (zz_mt S c p i + 0)) ⟨?_, hnext⟩
            rw [hpn, hmt, if_neg (by omega)]
          · rw [if_neg (zz_ne g (by omega) (by decide))]
            by_cases g2 : d % 9 = 4
            · rw [if_pos (congrArg nI g2)]
              refine ih (nI (d % 9), nI (d / 9), nI (zz_mt S c p i + 1)) ⟨?_, hnext⟩
              rw [hpn, hmt, if_pos ⟨g, g2⟩]
            · rw [if_neg (zz_ne g2 (by omega) (by decide))]
              refine ih (nI (d % 9), nI (d / 9), nI (zz_mt S c p i + 0)) ⟨?_, hnext⟩
              rw [hpn, hmt, if_neg (fun q => g2 q.2)]
theorem zz_pa_op (ho : zz_op S c = true) (hf : zz_fi (zz_bk S e c p) n = none) : ∀ k, k ≤ n → zz_op S (zz_pa S c p k) = true
  | 0, _ => ho
  | k + 1, hk => by
    have hb := zz_fi_none hf k (by omega)
    unfold zz_bk at hb
    cases h : zz_nb (zz_pa S c p k) (S (110 + 20 * p + k)) with
    | some d =>
      rw [h] at hb
      have hb2 : (!(zz_op S d) || zz_tk S e d) = false := hb
      rw [zz_pa_y h]
      cases g : zz_op S d with
      | true => rfl
      | false => rw [g] at hb2; cases hb2
    | none =>
      rw [h] at hb
      cases hb
theorem zc_sailL (hc : c < 81) (hp : p < 6) (hn : n ≤ 20) (hK : 100 ≤ K) (he : e < 4) (hce : ce e = nI c) (hm : ∀ k, k < n → mo (p * 20 + k) = nI (S (110 + 20 * p + k))) (hm4 : ∀ k, k < n → S (110 + 20 * p + k) < 4) (hnb : ∀ k, k < n → zz_nb (zz_pa S c p k) (S (110 + 20 * p + k)) ≠ none) (m0 : Nat) : ∃ ce', f_X6_sailBy_L53 mo (nI p) (nI e) (nI n) K (nI 0) ce (nI m0) = some (ce', nI (m0 + zz_mt S c p n)) ∧ ∀ j, ce' j = if j = e then nI (zz_pa S c p n) else ce j := by
  have hpl := zz_pa_lt (S := S) (p := p) (n := n) hc hm4
  refine zz_for0 (fun K i (s : (Nat → Int32) × Int32) => f_X6_sailBy_L53 mo (nI p) (nI e) (nI n) K (nI i) s.1 s.2) n (fun i s => s.2 = nI (m0 + zz_mt S c p i) ∧ ∀ j, s.1 j = if j = e then nI (zz_pa S c p i) else ce j) (fun o => ∃ ce', o = some (ce', nI (m0 + zz_mt S c p n)) ∧ ∀ j, ce' j = if j = e then nI (zz_pa S c p n) else ce j) ?_ ?_ K (ce, nI m0) (by omega) ⟨rfl, fun j => ?_⟩
  · intro k s h
    refine ⟨s.1, ?_, h.2⟩
    show f_X6_sailBy_L53 mo (nI p) (nI e) (nI n) (k + 1) (nI n) s.1 s.2 = _
    rw [f_X6_sailBy_L53, if_pos (nI_le (Nat.le_refl _) (by omega)), h.1]
  · intro k i s hi h ih
    obtain ⟨h1, h2⟩ := h
    have h81 := hpl i (by omega)
    have hse : s.1 e = nI (zz_pa S c p i) := by rw [h2 e, if_pos (by first | rfl | decide)]
    show ∃ ce', f_X6_sailBy_L53 mo (nI p) (nI e) (nI n) (k + 1) (nI i) s.1 s.2 = some (ce', _) ∧ _
    rw [f_X6_sailBy_L53, if_neg (nI_ge hi (by omega)), zc_moveIn hp (by omega) (hm i hi), zz_b]
    cases hn2 : zz_nb (zz_pa S c p i) (S (110 + 20 * p + i)) with
    | none => exact absurd hn2 (hnb i hi)
    | some d =>
      have hd := zz_nb_lt _ h81 _ (hm4 i hi) d hn2
      have hpn : zz_pa S c p (i + 1) = d := zz_pa_y hn2
      have hmt : zz_mt S c p (i + 1) = zz_mt S c p i + if zz_pa S c p i % 9 ≠ 4 ∧ d % 9 = 4 then 1 else 0 := by
        rw [← hpn]
        rfl
      have hstep : f_X3_step s.1 s.2 (nI e) (nI (S (110 + 20 * p + i))) = some (upd s.1 e (nI d), nI (m0 + zz_mt S c p (i + 1))) := by
        rw [f_X3_step, zz_g he (by decide), nI_clamp (by omega), hse, zc_neighbour _ h81 _ (hm4 i hi), zz_b, hn2]
        show (if nI d = -1 then _ else (f_X12_column (nI d)).bind _) = _
        rw [if_neg (zz_n1 (by omega)), zc_column d hd, zz_b, zz_l4]
        by_cases g2 : d % 9 = 4
        · rw [if_pos (congrArg nI g2), zz_g he (by decide), zc_column _ h81, zz_b]
          by_cases g : zz_pa S c p i % 9 = 4
          · rw [if_pos (congrArg nI g), zz_g he (by decide), h1, hmt, if_neg (by omega), Nat.add_zero]
            rfl
          · rw [if_neg (zz_ne g (by omega) (by decide)), zz_g he (by decide), h1, nI_1, hmt, if_pos ⟨g, g2⟩, Nat.add_assoc]
            rfl
        · rw [if_neg (zz_ne g2 (by omega) (by decide)), zz_g he (by decide), h1, hmt, if_neg (fun q => g2 q.2), Nat.add_zero]
          rfl
      rw [hstep, zz_b, nI_1]
      refine ih (_, _) ⟨rfl, fun j => ?_⟩
      show upd s.1 e (nI d) j = _
      rw [zz_upd, hpn, h2 j]
      by_cases g : j = e
      · rw [if_pos g, if_pos g]
      · rw [if_neg g, if_neg g, if_neg g]
  · show ce j = if j = e then nI c else ce j
    by_cases g : j = e
    · rw [if_pos g, g, hce]
    · rw [if_neg g]
theorem zz_fare_b {n : Nat} (hn : n ≤ 20) : zz_fare n ≤ 21 := by
  unfold zz_fare
  split <;> omega
theorem zp_sail (hK : 2000 ≤ K) (hB : B ≤ 1000000) (hs : ∀ c, c < 81 → st c = nI (S (7 + c))) (ir : zz_Ir S) (ib : zz_Ib B S) (io : zz_Io S) (ip : zz_Ip S) (pb : zz_Pb S nu ce fa fc nx to re me) (pp : zz_Pp S mo le) (hM : zz_Pm S v) (tx ty tm x y : Int32) :
    (∃ c e r q tx' ty' tm', f_X6_sailBy K st nu ce fa fc to me mo le x y = some (c, ce, fa, to, me) ∧ f_X13_find K v x = some q ∧ f_X13_sails K 0 v tx ty tm q y = some (r, e, v, tx', ty', tm') ∧ ((c = -2 ∧ e = 1) ∨ (c = -1 ∧ e = 2) ∨ (c = -5 ∧ e = 3))) ∨
    (∃ a T ce' fa' to' me' v' q tx' ty' tm', a < 2 ^ 31 ∧ f_X6_sailBy K st nu ce fa fc to me mo le x y = some (nI a, ce', fa', to', me') ∧ f_X13_find K v x = some q ∧ f_X13_sails K 0 v tx ty tm q y = some (nI a, 0, v', tx', ty', tm') ∧ zz_Ib (B + 1) T ∧ zz_Io T ∧ (zz_Er S T ∧ zz_Ep S T ∧ zz_El S T ∧ zz_Ef S T) ∧ zz_Pb T nu ce' fa' fc nx to' re me' ∧ zz_Pm T v') := by
  obtain ⟨p1, p2, p3, rfl, p5, rfl, p7, rfl⟩ := pb
  have h4 := ib.2.1
  have hx : ∀ b, b < S 3 → zz_c S b < 81 := fun b hb => zz_Ib_c ib hb
  have hfind := zm_find (K := K) hM h4 (by omega) x
  have hplace := zc_placeOf (K := K) (nu := nu) p1 h4 (by omega) x
  cases hf : zz_fd S x with
  | none =>
    rw [hf] at hfind hplace
    refine Or.inl ⟨-2, 1, 0, -1, tx, ty, tm, ?_, hfind, ?_, Or.inl ⟨rfl, rfl⟩⟩
    · rw [f_X6_sailBy, hplace, zz_b]
      rfl
    · rw [f_X13_sails, if_neg (by decide)]
      rfl
  | some b =>
    rw [hf, zz_os] at hfind hplace
    obtain ⟨hb, _, _⟩ := zz_fi_some hf
    have hb4 : b < 4 := by omega
    have hc1 : f_X6_sailBy K st nu ce fa (nI (S 3)) (nI (zz_fs S + S 5)) (nI (S 6)) mo le x y = (f_X12_isPlan y).bind fun q18 => if q18 = 0 then some ((-1), ce, fa, (nI (zz_fs S + S 5)), (nI (S 6))) else (f_X6_blockedPosition K st ce (nI (S 3)) mo le (nI b) y).bind fun q29 => if q29 = (-1) then mm_g (mm_ck y 6) ((f_X6_sailBy_L53 mo y (nI b) (le y.toNatClampNeg) K 0 ce (nI (S 6))).bind fun q53 => if ((le y.toNatClampNeg) - (le y.toNatClampNeg) / 2 * 2) = 0 then (f_X3_pay fa (nI (zz_fs S + S 5)) (nI b) ((le y.toNatClampNeg) + 1)).bind fun q109 => some (((le y.toNatClampNeg) + 1), q53.1, q109.1, q109.2, q53.2) else (f_X3_pay fa (nI (zz_fs S + S 5)) (nI b) (le y.toNatClampNeg)).bind fun q109 => some ((le y.toNatClampNeg), q53.1, q109.1, q109.2, q53.2)) else some ((-5), ce, fa, (nI (zz_fs S + S 5)), (nI (S 6))) := by
      rw [f_X6_sailBy, hplace, zz_b]
      show (if nI b = -1 then _ else _) = _
      rw [if_neg (zz_n1 (by omega))]
    rcases zz_plan y with ⟨h1, h2⟩ | ⟨p, hp, rfl, h1, h2⟩
    · refine Or.inl ⟨-1, 2, 0, nI b, tx, ty, tm, ?_, hfind, ?_, Or.inr (Or.inl ⟨rfl, rfl⟩)⟩
      · rw [hc1, h1]
        rfl
      · rw [f_X13_sails, if_pos (nI_pos' (by omega)), h2]
        rfl
    · have hl := ip.1 p hp
      have hm4 : ∀ k, k < S (104 + p) → S (110 + 20 * p + k) < 4 := fun k hk => ip.2 p k hp hk
      have hblk := zc_blocked (K := K) (mo := mo) (le := le) hs ir.2.2 hx p2 h4 (by omega) hb hp hl (pp.1 p hp) (fun k hk => pp.2 p k hp hk) hm4
      obtain ⟨ba, bb, bm, hbar, hbar2⟩ := zm_bars (K := K) hM ir.2.2 (fun b hb => ⟨(ib.2.2.2.2 b hb).1, (ib.2.2.2.2 b hb).2.1⟩) h4 (by omega) hb hp hl rfl hm4
      have hms : f_X13_sails K 0 v tx ty tm (nI b) (nI p) = (if (zz_o (zz_fi (zz_bk S b (zz_c S b) p) (S (104 + p)))) < 0 then mm_g (mm_ck (104 + nI p) 238) ((f_X13_of (nI b) 1).bind fun q56 => mm_g (mm_ck q56 238) ((f_X13_of (nI b) 2).bind fun q70 => mm_g (mm_ck q70 238) ((f_X13_of (nI b) 3).bind fun q84 => mm_g (mm_ck q84 238) (mm_g (mm_ck q84 238) (some (((v (104 + nI p).toNatClampNeg) ||| 1), 0, (upd (upd (upd (upd v q56.toNatClampNeg ba) q70.toNatClampNeg bb) q84.toNatClampNeg (((upd (upd v q56.toNatClampNeg ba) q70.toNatClampNeg bb) q84.toNatClampNeg) + ((v (104 + nI p).toNatClampNeg) ||| 1))) 6 (((upd (upd (upd v q56.toNatClampNeg ba) q70.toNatClampNeg bb) q84.toNatClampNeg (((upd (upd v q56.toNatClampNeg ba) q70.toNatClampNeg bb) q84.toNatClampNeg) + ((v (104 + nI p).toNatClampNeg) ||| 1))) 6) + bm)), ba, bb, bm)))))) else (f_X13_fail 3).bind fun q34 => some (q34.1, q34.2, v, ba, bb, bm)) := by
        rw [f_X13_sails, if_pos (nI_pos' (by omega)), h2, zz_b, if_neg (by decide), hbar, zz_b]
      rw [h1, zz_b, if_neg (by decide), hblk, zz_b] at hc1
      cases hbl : zz_fi (zz_bk S b (zz_c S b) p) (S (104 + p)) with
      | some k =>
        have hk := (zz_fi_some hbl).1
        rw [hbl] at hms hc1
        refine Or.inl ⟨-5, 3, 0, nI b, ba, bb, bm, ?_, hfind, ?_, Or.inr (Or.inr ⟨rfl, rfl⟩)⟩
        · rw [hc1]
          show (if nI k = -1 then _ else _) = _
          rw [if_neg (zz_n1 (by omega))]
        · rw [hms]
          show (if nI k < 0 then _ else _) = _
          rw [if_neg (nI_pos (by omega))]
          rfl
      | none =>
        rw [hbl] at hms hc1
        obtain ⟨rfl, rfl, rfl⟩ := hbar2 hbl
        have hnb : ∀ k, k < S (104 + p) → zz_nb (zz_pa S (zz_c S b) p k) (S (110 + 20 * p + k)) ≠ none := by
          intro k hk q
          have := zz_fi_none hbl k hk
          unfold zz_bk at this
          rw [q] at this
          cases this
        obtain ⟨ce', hsl, hsl2⟩ := zc_sailL (K := K) (mo := mo) (ce := ce) (hx b hb) hp hl (by omega) hb4 (p2 b hb) (fun k hk => pp.2 p k hp hk) hm4 hnb (S 6)
        have hop := zz_pa_op (io b hb) hbl (S (104 + p)) (Nat.le_refl _)
        have h81 := zz_pa_lt (hx b hb) hm4 (S (104 + p)) (Nat.le_refl _)
        have hmt := zz_mt_le (S := S) (c := zz_c S b) (p := p) (S (104 + p))
        have hfr := zz_fare_b hl
        have hfb := zz_fs_le ib hb
        obtain ⟨j1, j2, j3, j4, j5⟩ := ib
        generalize hd : zz_pa S (zz_c S b) p (S (104 + p)) = d at *
        generalize zz_mt S (zz_c S b) p (S (104 + p)) = mt at *
        have hor := zz_or1 (S (104 + p)) (by omega)
        have hpay : ∀ z, f_X3_pay fa (nI (zz_fs S + S 5)) (nI b) (nI z) = some (upd fa b (nI (S (91 + 4 * b) + z)), nI (zz_fs S + S 5 + z)) := by
          intro z
          rw [f_X3_pay, zz_g hb4 (by decide), zz_g hb4 (by decide), nI_clamp (by omega), p3 b hb, nI_add, nI_add]
        have hcf : f_X6_sailBy K st nu ce fa (nI (S 3)) (nI (zz_fs S + S 5)) (nI (S 6)) mo le x (nI p) = some (nI (zz_fare (S (104 + p))), ce', upd fa b (nI (S (91 + 4 * b) + zz_fare (S (104 + p)))), nI (zz_fs S + S 5 + zz_fare (S (104 + p))), nI (S 6 + mt)) := by
          rw [hc1, if_pos (by first | rfl | decide), zz_g hp (by decide), nI_clamp (by omega), pp.1 p hp]
          show ((f_X6_sailBy_L53 mo (nI p) (nI b) (nI (S (104 + p))) K (nI 0) ce (nI (S 6))).bind _) = _
          rw [hsl, zz_b, zz_l2, pk_rem (by omega) (by decide) (by decide), nI_1, hpay, hpay]
          unfold zz_fare
          by_cases g : S (104 + p) % 2 = 0
          · rw [g, if_pos (by first | rfl | decide), if_pos (by first | rfl | decide), zz_b]
          · rw [if_neg (nI_ne0 (by omega) (by omega)), if_neg g, zz_b]
        generalize zz_fare (S (104 + p)) = fr at *
        have hT : ∀ k, k ≠ 6 → k ≠ 89 + 4 * b → k ≠ 90 + 4 * b → k ≠ 91 + 4 * b → zz_u (zz_u (zz_u (zz_u S (89 + 4 * b) (d % 9)) (90 + 4 * b) (d / 9)) (91 + 4 * b) (S (91 + 4 * b) + fr)) 6 (S 6 + mt) k = S k := by
          intro k h1 h2 h3 h4
          rw [zz_un _ _ h1, zz_un _ _ h4, zz_un _ _ h3, zz_un _ _ h2]
        have hT6 : zz_u (zz_u (zz_u (zz_u S (89 + 4 * b) (d % 9)) (90 + 4 * b) (d / 9)) (91 + 4 * b) (S (91 + 4 * b) + fr)) 6 (S 6 + mt) 6 = S 6 + mt := zz_us _ _ _
        have hTx : zz_u (zz_u (zz_u (zz_u S (89 + 4 * b) (d % 9)) (90 + 4 * b) (d / 9)) (91 + 4 * b) (S (91 + 4 * b) + fr)) 6 (S 6 + mt) (89 + 4 * b) = d % 9 := by rw [zz_un _ _ (by omega), zz_un _ _ (by omega), zz_un _ _ (by omega), zz_us]
        have hTy : zz_u (zz_u (zz_u (zz_u S (89 + 4 * b) (d % 9)) (90 + 4 * b) (d / 9)) (91 + 4 * b) (S (91 + 4 * b) + fr)) 6 (S 6 + mt) (90 + 4 * b) = d / 9 := by rw [zz_un _ _ (by omega), zz_un _ _ (by omega), zz_us]
        have hTf : zz_u (zz_u (zz_u (zz_u S (89 + 4 * b) (d % 9)) (90 + 4 * b) (d / 9)) (91 + 4 * b) (S (91 + 4 * b) + fr)) 6 (S 6 + mt) (91 + 4 * b) = S (91 + 4 * b) + fr := by rw [zz_un _ _ (by omega), zz_us]
        have hPm : zz_Pm (zz_u (zz_u (zz_u (zz_u S (89 + 4 * b) (d % 9)) (90 + 4 * b) (d / 9)) (91 + 4 * b) (S (91 + 4 * b) + fr)) 6 (S 6 + mt)) (upd (upd (upd (upd v (89 + 4 * b) (nI (d % 9))) (90 + 4 * b) (nI (d / 9))) (91 + 4 * b) (nI (S (91 + 4 * b) + fr))) 6 (nI (S 6 + mt))) := zz_Pm_u (zz_Pm_u (zz_Pm_u (zz_Pm_u hM _ _) _ _) _ _) _ _
        generalize zz_u (zz_u (zz_u (zz_u S (89 + 4 * b) (d % 9)) (90 + 4 * b) (d / 9)) (91 + 4 * b) (S (91 + 4 * b) + fr)) 6 (S 6 + mt) = T at *
        have hE := zz_Ex_b (S := S) (T := T) (fun k h1 h2 h3 h4 h5 => hT k h4 (by omega) (by omega) (by omega))
        have hT3 : T 3 = S 3 := hT 3 (by decide) (by omega) (by omega) (by omega)
        have hT2 : T 2 = S 2 := hT 2 (by decide) (by omega) (by omega) (by omega)
        have hT5 : T 5 = S 5 := hT 5 (by decide) (by omega) (by omega) (by omega)
        have hTc : zz_c T b = d := by unfold zz_c; rw [hTx, hTy]; omega
        have hTj : ∀ j, j ≠ b → T (89 + 4 * j) = S (89 + 4 * j) ∧ T (90 + 4 * j) = S (90 + 4 * j) ∧ T (91 + 4 * j) = S (91 + 4 * j) ∧ zz_c T j = zz_c S j := by
          intro j hj
          have e1 := hT (89 + 4 * j) (by omega) (by omega) (by omega) (by omega)
          have e2 := hT (90 + 4 * j) (by omega) (by omega) (by omega) (by omega)
          exact ⟨e1, e2, hT _ (by omega) (by omega) (by omega) (by omega), by unfold zz_c; rw [e1, e2]⟩
        have hTn : ∀ j, T (88 + 4 * j) = S (88 + 4 * j) := fun j => hT _ (by omega) (by omega) (by omega) (by omega)
        have hfs : zz_fs T = zz_fs S + fr := by
          have h9 := zz_sm_u (f := fun j => T (91 + 4 * j)) (g := fun j => S (91 + 4 * j)) (k := b) (n := S 3) hb (fun j hj hn => (hTj j hn).2.2.1)
          unfold zz_fs
          rw [hT3]
          have h8 : zz_sm (fun j => T (91 + 4 * j)) (S 3) + S (91 + 4 * b) = zz_sm (fun j => S (91 + 4 * j)) (S 3) + T (91 + 4 * b) := h9
          rw [hTf] at h8
          omega
        refine Or.inr ⟨fr, T, ce', upd fa b (nI (S (91 + 4 * b) + fr)), nI (zz_fs S + S 5 + fr), nI (S 6 + mt), _, nI b, nI (d % 9), nI (d / 9), nI mt, by omega, hcf, hfind, ?_, ⟨by omega, by omega, by omega, by omega, fun j hj => ?_⟩, fun j hj => ?_, hE, ⟨fun j hj => ?_, fun j hj => ?_, fun j hj => ?_, by rw [hT3], by rw [hT2]; exact p5, by rw [hfs, hT5]; congr 1; omega, by rw [hT5]; exact p7, by rw [hT6]⟩, hPm⟩
        · rw [hms, if_pos (by decide), zz_l104, nI_add, zz_g (by omega) (by decide), zm_of1, zz_b, zz_g (by omega) (by decide), zm_of2, zz_b, zz_g (by omega) (by decide), zm_of3, zz_b, zz_g (by omega) (by decide), zz_g (by omega) (by decide), nI_clamp (by omega), nI_clamp (by omega), nI_clamp (by omega), nI_clamp (by omega), hM _ (by omega), hor]
          rw [show upd (upd v (89 + 4 * b) (nI (d % 9))) (90 + 4 * b) (nI (d / 9)) (91 + 4 * b) = nI (S (91 + 4 * b)) by rw [pk_un (by omega), pk_un (by omega), hM _ (by omega)], nI_add]
          rw [show upd (upd (upd v (89 + 4 * b) (nI (d % 9))) (90 + 4 * b) (nI (d / 9))) (91 + 4 * b) (nI (S (91 + 4 * b) + fr)) 6 = nI (S 6) by rw [pk_un (by omega), pk_un (by omega), pk_un (by omega), hM _ (by omega)], nI_add]
        · rw [hT3] at hj
          rw [hTn]
          by_cases g : j = b
          · rw [g, hTx, hTy]
            have := j5 b hb
            omega
          · rw [(hTj j g).1, (hTj j g).2.1]
            have := j5 j hj
            omega
        · rw [hT3] at hj
          by_cases g : j = b
          · rw [g, hTc, zz_Er_op hE.1 h81]; exact hop
          · rw [(hTj j g).2.2.2, zz_Er_op hE.1 (hx j hj)]; exact io j hj
        · rw [hT3] at hj
          rw [hTn]; exact p1 j hj
        · rw [hT3] at hj
          rw [hsl2 j]
          by_cases g : j = b
          · rw [if_pos g, g, hTc]
          · rw [if_neg g, (hTj j g).2.2.2]; exact p2 j hj
        · rw [hT3] at hj
          rw [zz_upd]
          by_cases g : j = b
          · rw [if_pos g, g, hTf]
          · rw [if_neg g, (hTj j g).2.2.1]; exact p3 j hj
end ZSA
