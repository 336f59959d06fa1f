-- a boat leaves, on both sides
section ZD
variable {S T : Nat → Nat} {B K : Nat} {st nu ce fa : Nat → Int32} {fc nx to re me : Int32} {v : Nat → Int32}
def zz_dT (S : Nat → Nat) (b : Nat) : Nat → Nat := fun j => if j = 3 then S 3 - 1 else if j = 5 then S 5 + S (91 + 4 * b) else if 88 + 4 * b ≤ j ∧ j < 104 then (if j + 4 < 104 then S (j + 4) else 0) else S j
def zz_sh (f : Nat → Int32) (p i : Nat) : Nat → Int32 := fun j => if p ≤ j ∧ j + 1 < i then f (j + 1) else f j
theorem zz_sh_u {f : Nat → Int32} {p i : Nat} (h : p + 1 ≤ i) : upd (zz_sh f p i) (i - 1) (zz_sh f p i i) = zz_sh f p (i + 1) := by
  funext j
  rw [zz_upd]
  unfold zz_sh
  rw [if_neg (show ¬ (p ≤ i ∧ i + 1 < i) by omega)]
  by_cases e : j = i - 1
  · rw [if_pos e, if_pos (by omega), show j + 1 = i by omega]
  · rw [if_neg e]
    by_cases g : p ≤ j ∧ j + 1 < i
    · rw [if_pos g, if_pos (by omega)]
    · rw [if_neg g, if_neg (by omega)]
theorem zz_sh_0 (f : Nat → Int32) (p : Nat) : zz_sh f p (p + 1) = f := by
  funext j
  unfold zz_sh
  rw [if_neg (by omega)]
theorem zz_sh_e {f : Nat → Int32} {p n j : Nat} (hj : j < n - 1) : zz_sh f p n j = if p ≤ j then f (j + 1) else f j := by
  unfold zz_sh
  by_cases e : p ≤ j
  · rw [if_pos (show p ≤ j ∧ j + 1 < n from ⟨e, by omega⟩), if_pos e]
  · rw [if_neg (fun q : p ≤ j ∧ j + 1 < n => e q.1), if_neg e]
theorem zc_dismL {n p : Nat} (hn : n ≤ 4) (hK : 10 ≤ K) (hp : p < n) : ∃ nu' ce' fa', f_X3_dismiss_L36 (nI n) K (nI (p + 1)) nu ce fa = some (nu', ce', fa') ∧ ∀ j, j < n - 1 → nu' j = (if p ≤ j then nu (j + 1) else nu j) ∧ ce' j = (if p ≤ j then ce (j + 1) else ce j) ∧ fa' j = (if p ≤ j then fa (j + 1) else fa j) := by
  refine ⟨zz_sh nu p n, zz_sh ce p n, zz_sh fa p n, ?_, fun j hj => ⟨zz_sh_e hj, zz_sh_e hj, zz_sh_e hj⟩⟩
  refine zz_for (fun K i (s : (Nat → Int32) × (Nat → Int32) × (Nat → Int32)) => f_X3_dismiss_L36 (nI n) K (nI i) s.1 s.2.1 s.2.2) n (fun i s => p + 1 ≤ i ∧ s = (zz_sh nu p i, zz_sh ce p i, zz_sh fa p i)) (fun o => o = some (zz_sh nu p n, zz_sh ce p n, zz_sh fa p n)) ?_ ?_ (n - (p + 1)) (p + 1) K (nu, ce, fa) (by omega) (by omega) ⟨Nat.le_refl _, by rw [zz_sh_0, zz_sh_0, zz_sh_0]⟩
  · intro k s h
    obtain ⟨_, rfl⟩ := h
    show f_X3_dismiss_L36 (nI n) (k + 1) (nI n) (zz_sh nu p n) (zz_sh ce p n) (zz_sh fa p n) = _
    rw [f_X3_dismiss_L36, if_pos (nI_le (Nat.le_refl _) (by omega))]
  · intro k i s hi h ih
    obtain ⟨hpi, rfl⟩ := h
    show f_X3_dismiss_L36 (nI n) (k + 1) (nI i) (zz_sh nu p i) (zz_sh ce p i) (zz_sh fa p i) = _
    have hq : nI i - 1 = nI (i - 1) := by
      rw [zz_l1, pk_sub (by omega)]
    rw [f_X3_dismiss_L36, if_neg (nI_ge hi (by omega)), hq, zz_g (by omega) (by decide), zz_g (by omega) (by decide), zz_g (by omega) (by decide), zz_g (by omega) (by decide), zz_g (by omega) (by decide), zz_g (by omega) (by decide), nI_clamp (by omega), nI_clamp (by omega), nI_1, zz_sh_u hpi, zz_sh_u hpi, zz_sh_u hpi]
    exact ih (_, _, _) ⟨by omega, rfl⟩
theorem zm_leavL {b : Nat} (hb : b < 4) (hK : 100 ≤ K) : ∃ v', f_X13_leaves_L27 K (nI (88 + 4 * b)) v = some v' ∧ ∀ j, v' j = if 88 + 4 * b ≤ j ∧ j < 104 then (if j + 4 < 104 then v (j + 4) else 0) else v j := by
  refine zz_for (fun K i (s : Nat → Int32) => f_X13_leaves_L27 K (nI i) s) 104 (fun i s => 88 + 4 * b ≤ i ∧ ∀ j, s j = if 88 + 4 * b ≤ j ∧ j < i then (if j + 4 < 104 then v (j + 4) else 0) else v j) (fun o => ∃ v', o = some v' ∧ ∀ j, v' j = if 88 + 4 * b ≤ j ∧ j < 104 then (if j + 4 < 104 then v (j + 4) else 0) else v j) ?_ ?_ (104 - (88 + 4 * b)) (88 + 4 * b) K v (by omega) (by omega) ?_
  · intro k s h
    refine ⟨s, ?_, h.2⟩
    show f_X13_leaves_L27 (k + 1) (nI 104) s = _
    rw [f_X13_leaves_L27, if_pos (by decide)]
  · intro k i s hi h ih
    show ∃ v', f_X13_leaves_L27 (k + 1) (nI i) s = some v' ∧ _
    rw [f_X13_leaves_L27, zz_l104, if_neg (nI_ge hi (by decide)), zz_l4, nI_add, nI_1]
    by_cases e : i + 4 < 104
    · rw [if_neg (nI_ge e (by decide)), zz_g (by omega) (by decide), zz_g (by omega) (by decide), nI_clamp (by omega), nI_clamp (by omega)]
      refine ih _ ⟨by omega, fun j => ?_⟩
      rw [zz_upd, h.2 j, h.2 (i + 4), if_neg (show ¬ (88 + 4 * b ≤ i + 4 ∧ i + 4 < i) by omega)]
      by_cases e2 : j = i
      · rw [if_pos e2, if_pos (by omega), e2, if_pos e]
      · rw [if_neg e2]
        by_cases e3 : 88 + 4 * b ≤ j ∧ j < i
        · rw [if_pos e3, if_pos (show 88 + 4 * b ≤ j ∧ j < i + 1 by omega)]
        · rw [if_neg e3, if_neg (by omega)]
    · rw [if_pos (nI_le (by omega) (by omega)), zz_g (by omega) (by decide), nI_clamp (by omega)]
      refine ih _ ⟨by omega, fun j => ?_⟩
      rw [zz_upd, h.2 j]
      by_cases e2 : j = i
      · rw [if_pos e2, if_pos (by omega), e2, if_neg e]
      · rw [if_neg e2]
        by_cases e3 : 88 + 4 * b ≤ j ∧ j < i
        · rw [if_pos e3, if_pos (show 88 + 4 * b ≤ j ∧ j < i + 1 by omega)]
        · rw [if_neg e3, if_neg (by omega)]
  · exact ⟨Nat.le_refl _, fun j => by rw [if_neg (by omega)]⟩
theorem zp_dismiss (hK : 2000 ≤ K) (hB : B ≤ 1000000) (ib : zz_Ib B S) (io : zz_Io S) (pb : zz_Pb S nu ce fa fc nx to re me) (hM : zz_Pm S v) (x : Int32) :
    (∃ c e r q, f_X3_dismiss K nu ce fa fc re x = some (c, nu, ce, fa, fc, re) ∧ f_X13_find K v x = some q ∧ f_X13_leaves K 0 v q = some (r, e, v) ∧ (c = -2 ∧ e = 1)) ∨
    (∃ a T nu' ce' fa' fc' re' v' q, a < 2 ^ 31 ∧ f_X3_dismiss K nu ce fa fc re x = some (nI a, nu', ce', fa', fc', re') ∧ f_X13_find K v x = some q ∧ f_X13_leaves K 0 v q = some (nI a, 0, v') ∧ zz_Ib (B + 1) T ∧ zz_Io T ∧ (zz_Er S T ∧ zz_Ep S T ∧ zz_El S T ∧ zz_Ef S T) ∧ zz_Pb T nu' ce' fa' fc' nx to re' me ∧ zz_Pm T v') := by
  obtain ⟨p1, p2, p3, rfl, p5, p6, rfl, p8⟩ := pb
  have h4 := ib.2.1
  have hfind := zm_find (K := K) hM h4 (by omega) x
  have hplace := zc_placeOf (K := K) (nu := nu) p1 h4 (by omega) x
  cases hf : zz_fd S x with
  | none =>
    rw [hf] at hfind hplace
    refine Or.inl ⟨-2, 1, 0, -1, ?_, hfind, ?_, rfl, rfl⟩
    · rw [f_X3_dismiss, hplace, zz_b]
      rfl
    · rw [f_X13_leaves, if_neg (by decide)]
      rfl
  | some b =>
    rw [hf, zz_os] at hfind hplace
    obtain ⟨hb, _, _⟩ := zz_fi_some hf
    have hb4 : b < 4 := by omega
    obtain ⟨nu', ce', fa', hL, hR⟩ := zc_dismL (nu := nu) (ce := ce) (fa := fa) (K := K) h4 (by omega) hb
    obtain ⟨w, hw, hwv⟩ := zm_leavL (v := v) (K := K) hb4 (by omega)
    have hfb := zz_fs_le ib hb
    obtain ⟨j1, j2, j3, j4, j5⟩ := ib
    have hT3 : zz_dT S b 3 = S 3 - 1 := if_pos (by first | rfl | decide)
    have hT5 : zz_dT S b 5 = S 5 + S (91 + 4 * b) := by unfold zz_dT; rw [if_neg (by decide), if_pos (by first | rfl | decide)]
    have hTo : ∀ k, k ≠ 3 → k ≠ 5 → (k < 88 + 4 * b ∨ 104 ≤ k) → zz_dT S b k = S k := by
      intro k h1 h2 h3
      unfold zz_dT
      rw [if_neg h1, if_neg h2, if_neg (by omega)]
    have hTs : ∀ k, 88 + 4 * b ≤ k → k < 100 → zz_dT S b k = S (k + 4) := by
      intro k h1 h2
      unfold zz_dT
      rw [if_neg (by omega), if_neg (by omega), if_pos (by omega), if_pos (by omega)]
    have hPm : zz_Pm (zz_dT S b) (upd (upd w 3 (nI (S 3 - 1))) 5 (nI (S 5 + S (91 + 4 * b)))) := by
      intro j hj
      unfold zz_dT
      rw [zz_upd, zz_upd, hwv j]
      by_cases e5 : j = 5
      · rw [if_pos e5, if_neg (by omega), if_pos e5]
      · rw [if_neg e5]
        by_cases e3 : j = 3
        · rw [if_pos e3, if_pos e3]
        · rw [if_neg e3, if_neg e3, if_neg e5]
          by_cases e : 88 + 4 * b ≤ j ∧ j < 104
          · rw [if_pos e, if_pos e]
            by_cases g : j + 4 < 104
            · rw [if_pos g, if_pos g, hM _ (by omega)]
            · rw [if_neg g, if_neg g]; rfl
          · rw [if_neg e, if_neg e, hM j hj]
    generalize zz_dT S b = T at *
    have hE := zz_Ex_b (S := S) (T := T) (fun k h1 h2 h3 h4 h5 => hTo k h2 h3 (by omega))
    have hTj : ∀ j, j < S 3 - 1 → T (88 + 4 * j) = S (88 + 4 * (if b ≤ j then j + 1 else j)) ∧ T (89 + 4 * j) = S (89 + 4 * (if b ≤ j then j + 1 else j)) ∧ T (90 + 4 * j) = S (90 + 4 * (if b ≤ j then j + 1 else j)) ∧ T (91 + 4 * j) = S (91 + 4 * (if b ≤ j then j + 1 else j)) := by
      intro j hj
      by_cases e : b ≤ j
      · rw [if_pos e]
        refine ⟨?_, ?_, ?_, ?_⟩
        · rw [hTs _ (by omega) (by omega)]
          congr 1
        · rw [hTs _ (by omega) (by omega)]
          congr 1
        · rw [hTs _ (by omega) (by omega)]
          congr 1
        · rw [hTs _ (by omega) (by omega)]
          congr 1
      · rw [if_neg e]
        exact ⟨hTo _ (by omega) (by omega) (by omega), hTo _ (by omega) (by omega) (by omega), hTo _ (by omega) (by omega) (by omega), hTo _ (by omega) (by omega) (by omega)⟩
    have hfs : zz_fs T + S (91 + 4 * b) = zz_fs S := by
      unfold zz_fs
      rw [hT3]
      have := zz_sm_sh (f := fun b => S (91 + 4 * b)) (g := fun b => T (91 + 4 * b)) (p := b) (n := S 3 - 1) (by omega) (fun j hj => by
        have := (hTj j (by omega)).2.2.2
        rw [if_neg (by omega)] at this
        exact this) (fun j hj hj2 => by
        have := (hTj j (by omega)).2.2.2
        rw [if_pos hj] at this
        exact this)
      rw [show S 3 - 1 + 1 = S 3 by omega] at this
      exact this
    have hT2 : T 2 = S 2 := hTo 2 (by decide) (by decide) (by omega)
    have hT6 : T 6 = S 6 := hTo 6 (by decide) (by decide) (by omega)
    have hcj : ∀ j, j < S 3 - 1 → zz_c T j = zz_c S (if b ≤ j then j + 1 else j) := by
      intro j hj
      obtain ⟨_, e2, e3, _⟩ := hTj j hj
      unfold zz_c
      rw [e2, e3]
    have hlt : ∀ j, j < S 3 - 1 → (if b ≤ j then j + 1 else j) < S 3 := by
      intro j hj
      split <;> omega
    refine Or.inr ⟨S (91 + 4 * b), T, nu', ce', fa', nI (S 3 - 1), nI (S 5 + S (91 + 4 * b)), _, nI b, by omega, ?_, hfind, ?_, ⟨by omega, by omega, by rw [hT5]; omega, by omega, fun j hj => ?_⟩, fun j hj => ?_, hE, ⟨fun j hj => ?_, fun j hj => ?_, fun j hj => ?_, by rw [hT3], by rw [hT2]; exact p5, ?_, by rw [hT5], by rw [hT6]; exact p8⟩, hPm⟩
    · rw [f_X3_dismiss, hplace, zz_b]
      show (if nI b = -1 then _ else _) = _
      rw [if_neg (zz_n1 (by omega)), zz_g hb4 (by decide), nI_1, hL, zz_b, nI_clamp (by omega), p3 b hb, nI_add, zz_l1, pk_sub (by omega)]
    · rw [f_X13_leaves, if_pos (nI_pos' (by omega)), zm_of3, zz_b, zz_g (by omega) (by decide), zm_of0, zz_b, hw, zz_b, nI_clamp (by omega), hM _ (by omega)]
      have e3 : w 3 = nI (S 3) := by rw [hwv 3, if_neg (by omega), hM 3 (by decide)]
      have e5 : w 5 = nI (S 5) := by rw [hwv 5, if_neg (by omega), hM 5 (by decide)]
      rw [e3, zz_l1, pk_sub (by omega), pk_un (by decide), e5, nI_add]
    · rw [hT3] at hj
      obtain ⟨e1, e2, e3, _⟩ := hTj j hj
      have := j5 _ (hlt j hj)
      rw [e1, e2, e3]
      omega
    · rw [hT3] at hj
      have h81 : zz_c S (if b ≤ j then j + 1 else j) < 81 := by
        have := j5 _ (hlt j hj)
        unfold zz_c
        omega
      rw [hcj j hj, zz_Er_op hE.1 h81]
      exact io _ (hlt j hj)
    · rw [hT3] at hj
      rw [(hR j hj).1, (hTj j hj).1, ← p1 _ (hlt j hj)]
      split <;> rfl
    · rw [hT3] at hj
      rw [(hR j hj).2.1, hcj j hj, ← p2 _ (hlt j hj)]
      split <;> rfl
    · rw [hT3] at hj
      rw [(hR j hj).2.2, (hTj j hj).2.2.2, ← p3 _ (hlt j hj)]
      split <;> rfl
    · rw [hT5, p6]
      congr 1
      omega
end ZD
