-- the relation between the two sides
section ZRL
variable {B C K fr n : Nat} {S : Nat → Nat} {T : Nat → Nat → Nat} {M U : mm_MV} {sl : Nat → mm_MV} {v past before : Nat → Int32}
theorem zc_note (hf : fr < 9) (hi : zz_Inv B S) (hc : zz_Pc S M) (sl : Nat → mm_MV) : ∃ N, f_X4_note sl (nI fr) M.1 M.2.1 M.2.2.1 M.2.2.2.1 M.2.2.2.2.1 M.2.2.2.2.2.1 M.2.2.2.2.2.2.1 M.2.2.2.2.2.2.2.1 M.2.2.2.2.2.2.2.2.1 M.2.2.2.2.2.2.2.2.2.1 M.2.2.2.2.2.2.2.2.2.2.1 M.2.2.2.2.2.2.2.2.2.2.2.1 M.2.2.2.2.2.2.2.2.2.2.2.2.1 M.2.2.2.2.2.2.2.2.2.2.2.2.2.1 M.2.2.2.2.2.2.2.2.2.2.2.2.2.2.1 M.2.2.2.2.2.2.2.2.2.2.2.2.2.2.2 = some (va_up sl fr N) ∧ zz_Pc S N := by
  obtain ⟨N, n1, n2⟩ := zc_copy (M := M) hi hc ((sl fr).1) ((sl fr).2.2.2.1) ((sl fr).2.2.2.2.1) ((sl fr).2.2.2.2.2.1) ((sl fr).2.2.2.2.2.2.2.2.2.2.2.1) ((sl fr).2.2.2.2.2.2.2.2.2.2.2.2.1) ((sl fr).2.2.2.2.2.2.2.2.2.2.2.2.2.1)
  refine ⟨N, ?_, n2⟩
  rw [f_X4_note, zz_g hf (by decide), nI_clamp (by omega), n1, zz_b]
theorem zz_H_up (h : zz_H B sl fr n past T) (N : mm_MV) : zz_H B (va_up sl fr N) fr n past T := by
  obtain ⟨h1, h2, h3⟩ := h
  refine ⟨h1, h2, fun i hi => ?_⟩
  obtain ⟨g1, g2, g3⟩ := h3 i hi
  refine ⟨g1, ?_, g3⟩
  rw [va_up_ne _ _ (show ¬ ((fr + 9 - n + i) % 9 = fr) by omega)]
  exact g2
theorem zc_set (a : Nat) (ha : a < 2 ^ 31) (hf : fr < 9) (hn : n ≤ 8) : f_X12_settled (nI fr) (nI n) (nI a) = some (0, nI a, nI ((fr + 1) % 9), nI (zz_nn1 n)) := by
  rw [f_X12_settled, if_neg (show ¬ (nI a = -5) from zz_m1 ha (k := 5) (by decide) (by decide)), if_neg (show ¬ (nI a = -4) from zz_m1 ha (k := 4) (by decide) (by decide)), if_neg (show ¬ (nI a = -3) from zz_m1 ha (k := 3) (by decide) (by decide)), if_neg (show ¬ (nI a = -2) from zz_m1 ha (k := 2) (by decide) (by decide)), if_neg (show ¬ (nI a = -1) from zz_m1 ha (k := 1) (by decide) (by decide)), zc_confirm hf hn, zz_b]
theorem zc_set1 (f m : Int32) : f_X12_settled f m (-1) = some (1, 0, f, m) := by
  rw [f_X12_settled, if_neg (by decide), if_neg (by decide), if_neg (by decide), if_neg (by decide), if_pos rfl]
theorem zc_set2 (f m : Int32) : f_X12_settled f m (-2) = some (2, 0, f, m) := by
  rw [f_X12_settled, if_neg (by decide), if_neg (by decide), if_neg (by decide), if_pos rfl]
theorem zc_set3 (f m : Int32) : f_X12_settled f m (-3) = some (3, 0, f, m) := by
  rw [f_X12_settled, if_neg (by decide), if_neg (by decide), if_pos rfl]
theorem zc_set4 (f m : Int32) : f_X12_settled f m (-4) = some (4, 0, f, m) := by
  rw [f_X12_settled, if_neg (by decide), if_pos rfl]
theorem zc_set5 (f m : Int32) : f_X12_settled f m (-5) = some (5, 0, f, m) := by
  rw [f_X12_settled, if_pos rfl]
theorem zz_cmp (f : Nat → Int64) (x : Int64) : lg_cmp (vp_updL f 0 x 0) x = 0 := (lg_cmp_eq _ _).mpr (if_pos rfl)
/-- both sides' states agree; B bounds the changes so far -/
def zz_R (B : Nat) (M U : mm_MV) (sl : Nat → mm_MV) (f m : Int32) (sg : Nat → Int32) (sn : Int32) (ls : Nat → Int32) (ll tk le lf ch ea fa sv : Int32) (v saved past text line words wa : Nat → Int32) (tn ln : Int32) : Prop :=
  zz_Q B M sl f m ch v past ∧ ((tk = 0 ∧ sv = 0) ∨ (tk = 1 ∧ sv = 1 ∧ ∃ W, zz_Inv B W ∧ zz_Pc W U ∧ zz_Pm W saved)) ∧ (∃ n t, zz_Tx n t sg text ∧ sn = nI n ∧ tn = nI n) ∧ (∃ n, n ≤ 40 ∧ zz_Ln n ls line ∧ ll = nI n ∧ ln = nI n) ∧ (le = ea ∧ (le = -1 ∨ ∃ z, z < 2 ^ 31 ∧ le = nI z)) ∧ (lf = fa ∧ (lf = -1 ∨ ∃ z, z < 2 ^ 31 ∧ lf = nI z)) ∧ zz_Wd words wa
theorem zz_S_m (hB : B ≤ C) {tk sv : Int32} {saved : Nat → Int32} (h : (tk = 0 ∧ sv = 0) ∨ (tk = 1 ∧ sv = 1 ∧ ∃ W, zz_Inv B W ∧ zz_Pc W U ∧ zz_Pm W saved)) : (tk = 0 ∧ sv = 0) ∨ (tk = 1 ∧ sv = 1 ∧ ∃ W, zz_Inv C W ∧ zz_Pc W U ∧ zz_Pm W saved) := by
  rcases h with h | ⟨h1, h2, W, h3, h4⟩
  · exact Or.inl h
  · exact Or.inr ⟨h1, h2, W, zz_Inv_m hB h3, h4⟩
theorem zz_R_m (hB : B ≤ C) {f m sn ll tk le lf ch ea fa sv tn ln : Int32} {sg ls v saved past text line words wa : Nat → Int32} (h : zz_R B M U sl f m sg sn ls ll tk le lf ch ea fa sv v saved past text line words wa tn ln) : zz_R C M U sl f m sg sn ls ll tk le lf ch ea fa sv v saved past text line words wa tn ln := ⟨zz_Q_m hB h.1, zz_S_m hB h.2.1, h.2.2⟩
/-- a change refused: the marsh as before, the note behind -/
theorem zz_Q_f (hB : B ≤ C) (hi : zz_Inv B S) (hc : zz_Pc S M) (hH : zz_H B sl fr n past T) (hM : zz_Pm S v) (N : mm_MV) : zz_Q C M (va_up sl fr N) (nI fr) (nI n) (nI n) v past := ⟨S, T, fr, n, zz_Inv_m hB hi, hc, hM, rfl, rfl, rfl, zz_H_m hB (zz_H_up hH N)⟩

def zz_RR : Nat → g_RelT := fun j a0 a1 a2 a3 a4 a5 a6 a7 a8 a9 a10 a11 a12 a13 a14 a15 a16 a17 a18 a19 a20 a21 a22 a23 a24 a25 a26 a27 a28 a29 a30 a31 a32 a33 a34 a35 a36 a37 a38 a39 a40 a41 a42 a43 a44 a45 a46 a47 a48 a49 a50 a51 a52 a53 a54 a55 a56 a57 a58 a59 a60 a61 a62 a63 a64 a65 a66 a67 a68 a69 a70 a71 a72 a73 a74 a75 a76 a77 a78 a79 => zz_R (60 * j) (a0, a1, a2, a3, a4, a5, a6, a7, a8, a9, a10, a11, a12, a13, a14, a15) (a16, a17, a18, a19, a20, a21, a22, a23, a24, a25, a26, a27, a28, a29, a30, a31) a32 a33 a34 a46 a47 a48 a49 a51 a52 a53 a55 a56 a57 a58 a59 a61 a62 a69 a70 a72 a73 a74 a77
theorem zz_out {j : Nat} {a0 : Nat → Int32} {a1 : Int32} {a2 : Int32} {a3 : Nat → Int32} {a4 : Nat → Int32} {a5 : Nat → Int32} {a6 : Int32} {a7 : Int32} {a8 : Int32} {a9 : Int32} {a10 : Int32} {a11 : Nat → Int32} {a12 : Nat → Int32} {a13 : Nat → Int32} {a14 : Int32} {a15 : Int32} {a16 : Nat → Int32} {a17 : Int32} {a18 : Int32} {a19 : Nat → Int32} {a20 : Nat → Int32} {a21 : Nat → Int32} {a22 : Int32} {a23 : Int32} {a24 : Int32} {a25 : Int32} {a26 : Int32} {a27 : Nat → Int32} {a28 : Nat → Int32} {a29 : Nat → Int32} {a30 : Int32} {a31 : Int32} {a32 : Nat → mm_MV} {a33 : Int32} {a34 : Int32} {a35 : Nat → Int32} {a36 : Nat → Int32} {a37 : Nat → Int32} {a38 : Int32} {a39 : Nat → Int32} {a40 : Nat → Int32} {a41 : Nat → Int32} {a42 : Nat → Int32} {a43 : Nat → Int32} {a44 : Nat → Int32} {a45 : Int32} {a46 : Nat → Int32} {a47 : Int32} {a48 : Nat → Int32} {a49 : Int32} {a50 : Nat → Int32} {a51 : Int32} {a52 : Int32} {a53 : Int32} {a54 : Int32} {a55 : Int32} {a56 : Int32} {a57 : Int32} {a58 : Int32} {a59 : Nat → Int32} {a60 : Nat → Int32} {a61 : Nat → Int32} {a62 : Nat → Int32} {a63 : Nat → Int32} {a64 : Nat → Int32} {a65 : Nat → Int32} {a66 : Int32} {a67 : Int32} {a68 : Int32} {a69 : Nat → Int32} {a70 : Nat → Int32} {a71 : Nat → Int32} {a72 : Nat → Int32} {a73 : Nat → Int32} {a74 : Int32} {a75 : Int32} {a76 : Int32} {a77 : Int32} {a78 : Int32} {a79 : Int32} (h : zz_RR j a0 a1 a2 a3 a4 a5 a6 a7 a8 a9 a10 a11 a12 a13 a14 a15 a16 a17 a18 a19 a20 a21 a22 a23 a24 a25 a26 a27 a28 a29 a30 a31 a32 a33 a34 a35 a36 a37 a38 a39 a40 a41 a42 a43 a44 a45 a46 a47 a48 a49 a50 a51 a52 a53 a54 a55 a56 a57 a58 a59 a60 a61 a62 a63 a64 a65 a66 a67 a68 a69 a70 a71 a72 a73 a74 a75 a76 a77 a78 a79) : ∃ (S : Nat → Nat) (T : Nat → Nat → Nat) (fr n : Nat), zz_Ir S ∧ zz_Ib (60 * j) S ∧ zz_Io S ∧ zz_Ip S ∧ zz_Il S ∧ zz_If S ∧ zz_Pr S a0 a1 a2 ∧ zz_Pb S a3 a4 a5 a6 a7 a8 a9 a10 ∧ zz_Pp S a11 a12 ∧ zz_Pl S a13 a14 ∧ zz_Pf S a15 ∧ zz_Pm S a59 ∧ a33 = nI fr ∧ a34 = nI n ∧ a55 = nI n ∧ zz_H (60 * j) a32 fr n a62 T := by
  obtain ⟨⟨S, T, fr, n, ⟨ir, ib, io, ip, il, jf⟩, ⟨pr, pb, pp, pl, pf⟩, hM, hf, hm, hch, hH⟩, _⟩ := h
  exact ⟨S, T, fr, n, ir, ib, io, ip, il, jf, pr, pb, pp, pl, pf, hM, hf, hm, hch, hH⟩
end ZRL
