-- texts, lines, undo, save, restore: one step of the run each
section ZSD
theorem zz_chr (x : Int32) : ∃ z, z < 65536 ∧ (x.toUInt32 % 65536).toInt32 = nI z := by
  refine ⟨(x.toUInt32 % 65536).toNat, ?_, ?_⟩
  · rw [UInt32.toNat_mod]
    exact Nat.mod_lt _ (by decide)
  · show (⟨x.toUInt32 % 65536⟩ : Int32) = ⟨UInt32.ofNat (x.toUInt32 % 65536).toNat⟩
    rw [UInt32.ofNat_toNat]
theorem st_46 : g_ok46 zz_RR := by
  intro j hj a0 a1 a2 a3 a4 a5 a6 a7 a8 a9 a10 a11 a12 a13 a14 a15 a16 a17 a18 a19 a20 a21 a22 a23 a24 a25 a26 a27 a28 a29 a30 a31 a32 a33 a34 a35 a36 a37 a38 a39 a40 a41 a42 a43 a44 a45 a46 a47 a48 a49 a50 a51 a52 a53 a54 a55 a56 a57 a58 a59 a60 a61 a62 a63 a64 a65 a66 a67 a68 a69 a70 a71 a72 a73 a74 a75 a76 a77 a78 a79 p3 p4 x1 x2 x3 x4 hR
  obtain ⟨S, T, fr, n, ir, ib, io, ip, il, jf, pr, pb, pp, pl, pf, hM, hf, hm, hch, hH⟩ := zz_out hR
  obtain ⟨K, hK⟩ : ∃ K, 9000000 ≤ K := ⟨9000000, Nat.le_refl _⟩
  have hle : 60 * j ≤ 60 * (j + 1) := by omega
  obtain ⟨z, hz, hz2⟩ := zz_chr x1
  obtain ⟨m, t, hT, ht1, ht2⟩ := hR.2.2.1
  rcases zp_append hT hz with ⟨cc, e, c1, c2, hce⟩ | ⟨h60, sg, tx, c1, c2, c3⟩
  · rcases hce with ⟨rfl, rfl⟩ | ⟨rfl, rfl⟩
    · rw [g_law46, hz2, ht1, ht2, f_L_append, c1, zz_b, if_neg (show ¬ ((4 : Nat) = 0) by decide), if_pos (show (4 : Nat) = 4 from rfl), zz_b, c2, zz_b, f_X13_thrown, zz_b, if_pos (show (1 : Int32) = 1 from rfl), if_neg (show ¬ ((1 : Int32) = 0) by decide)]
      exact ⟨_, rfl, zz_Q_m hle hR.1, zz_S_m hle hR.2.1, ⟨m, t, hT, rfl, rfl⟩, hR.2.2.2⟩
    · rw [g_law46, hz2, ht1, ht2, f_L_append, c1, zz_b, if_neg (show ¬ ((3 : Nat) = 0) by decide), if_neg (show ¬ ((3 : Nat) = 4) by decide), if_pos (show (3 : Nat) = 3 from rfl), zz_b, c2, zz_b, f_X13_thrown, zz_b, if_pos (show (2 : Int32) = 2 from rfl), if_neg (show ¬ ((2 : Int32) = 0) by decide)]
      exact ⟨_, rfl, zz_Q_m hle hR.1, zz_S_m hle hR.2.1, ⟨m, t, hT, rfl, rfl⟩, hR.2.2.2⟩
  · rw [g_law46, hz2, ht1, ht2, f_L_append, c1, zz_b, if_pos (show (0 : Nat) = 0 from rfl), zz_b, c2, zz_b, f_X13_thrown, zz_b, if_pos (show (0 : Int32) = 0 from rfl), if_pos (show (0 : Int32) = 0 from rfl), if_pos (zz_cmp _ _)]
    exact ⟨_, rfl, zz_Q_m hle hR.1, zz_S_m hle hR.2.1, ⟨m + 1, zz_u t m z, c3, rfl, rfl⟩, hR.2.2.2⟩
theorem st_50 : g_ok50 zz_RR := by
  intro j hj a0 a1 a2 a3 a4 a5 a6 a7 a8 a9 a10 a11 a12 a13 a14 a15 a16 a17 a18 a19 a20 a21 a22 a23 a24 a25 a26 a27 a28 a29 a30 a31 a32 a33 a34 a35 a36 a37 a38 a39 a40 a41 a42 a43 a44 a45 a46 a47 a48 a49 a50 a51 a52 a53 a54 a55 a56 a57 a58 a59 a60 a61 a62 a63 a64 a65 a66 a67 a68 a69 a70 a71 a72 a73 a74 a75 a76 a77 a78 a79 p3 p4 x1 x2 x3 x4 hR
  obtain ⟨S, T, fr, n, ir, ib, io, ip, il, jf, pr, pb, pp, pl, pf, hM, hf, hm, hch, hH⟩ := zz_out hR
  obtain ⟨K, hK⟩ : ∃ K, 9000000 ≤ K := ⟨9000000, Nat.le_refl _⟩
  have hle : 60 * j ≤ 60 * (j + 1) := by omega
  refine ⟨K, ?_⟩
  rcases zp_descRow (K := K) (by omega) ir ib pr pb hM (by omega) a48 a70 a49 a77 x1 with ⟨c1, c2⟩ | ⟨ls, ml, c1, c2, c3⟩
  · rw [g_law50, f_L_describeRow, c1, zz_b, if_neg (show ¬ ((1 : Nat) = 0) by decide), if_pos (show (1 : Nat) = 1 from rfl), zz_b, c2, zz_b, f_X13_thrown, zz_b, if_pos (show (1 : Int32) = 1 from rfl), if_neg (show ¬ ((1 : Int32) = 0) by decide)]
    exact ⟨_, rfl, zz_Q_m hle hR.1, zz_S_m hle hR.2.1, hR.2.2⟩
  · rw [g_law50, f_L_describeRow, c1, zz_b, if_pos (show (0 : Nat) = 0 from rfl), zz_b, c2, zz_b, f_X13_thrown, zz_b, if_pos (show (0 : Int32) = 0 from rfl), if_pos (show (0 : Int32) = 0 from rfl), if_pos (zz_cmp _ _)]
    exact ⟨_, rfl, zz_Q_m hle hR.1, zz_S_m hle hR.2.1, hR.2.2.1, ⟨9, by decide, c3, rfl, rfl⟩, hR.2.2.2.2⟩
theorem st_51 : g_ok51 zz_RR := by
  intro j hj a0 a1 a2 a3 a4 a5 a6 a7 a8 a9 a10 a11 a12 a13 a14 a15 a16 a17 a18 a19 a20 a21 a22 a23 a24 a25 a26 a27 a28 a29 a30 a31 a32 a33 a34 a35 a36 a37 a38 a39 a40 a41 a42 a43 a44 a45 a46 a47 a48 a49 a50 a51 a52 a53 a54 a55 a56 a57 a58 a59 a60 a61 a62 a63 a64 a65 a66 a67 a68 a69 a70 a71 a72 a73 a74 a75 a76 a77 a78 a79 p3 p4 x1 x2 x3 x4 hR
  obtain ⟨S, T, fr, n, ir, ib, io, ip, il, jf, pr, pb, pp, pl, pf, hM, hf, hm, hch, hH⟩ := zz_out hR
  obtain ⟨K, hK⟩ : ∃ K, 9000000 ≤ K := ⟨9000000, Nat.le_refl _⟩
  have hle : 60 * j ≤ 60 * (j + 1) := by omega
  refine ⟨K, ?_⟩
  rcases zp_descPlan (K := K) ip pp hM (by omega) a48 a70 a49 a77 x1 with ⟨c1, c2⟩ | ⟨ls, ml, q, hq, c1, c2, c3⟩
  · rw [g_law51, f_L_describePlan, c1, zz_b, if_neg (show ¬ ((1 : Nat) = 0) by decide), if_pos (show (1 : Nat) = 1 from rfl), zz_b, c2, zz_b, f_X13_thrown, zz_b, if_pos (show (1 : Int32) = 1 from rfl), if_neg (show ¬ ((1 : Int32) = 0) by decide)]
    exact ⟨_, rfl, zz_Q_m hle hR.1, zz_S_m hle hR.2.1, hR.2.2⟩
  · rw [g_law51, f_L_describePlan, c1, zz_b, if_pos (show (0 : Nat) = 0 from rfl), zz_b, c2, zz_b, f_X13_thrown, zz_b, if_pos (show (0 : Int32) = 0 from rfl), if_pos (show (0 : Int32) = 0 from rfl), if_pos (zz_cmp _ _)]
    exact ⟨_, rfl, zz_Q_m hle hR.1, zz_S_m hle hR.2.1, hR.2.2.1, ⟨q, by omega, c3, rfl, rfl⟩, hR.2.2.2.2⟩
theorem st_56 : g_ok56 zz_RR := by
  intro j hj a0 a1 a2 a3 a4 a5 a6 a7 a8 a9 a10 a11 a12 a13 a14 a15 a16 a17 a18 a19 a20 a21 a22 a23 a24 a25 a26 a27 a28 a29 a30 a31 a32 a33 a34 a35 a36 a37 a38 a39 a40 a41 a42 a43 a44 a45 a46 a47 a48 a49 a50 a51 a52 a53 a54 a55 a56 a57 a58 a59 a60 a61 a62 a63 a64 a65 a66 a67 a68 a69 a70 a71 a72 a73 a74 a75 a76 a77 a78 a79 p3 p4 x1 x2 x3 x4 hR
  obtain ⟨S, T, fr, n, ir, ib, io, ip, il, jf, pr, pb, pp, pl, pf, hM, hf, hm, hch, hH⟩ := zz_out hR
  obtain ⟨K, hK⟩ : ∃ K, 9000000 ≤ K := ⟨9000000, Nat.le_refl _⟩
  have hle : 60 * j ≤ 60 * (j + 1) := by omega
  refine ⟨K, ?_⟩
  rcases zp_undo (M := (a0, a1, a2, a3, a4, a5, a6, a7, a8, a9, a10, a11, a12, a13, a14, a15)) (K := K) (by omega) hR.1 with ⟨c1, c2⟩ | ⟨N, g, m, w, c1, c2, c3⟩
  · rw [g_law56, f_L_undo, c1, zz_b, if_neg (show ¬ ((3 : Nat) = 0) by decide), if_pos (show (3 : Nat) = 3 from rfl), zz_b, c2, zz_b, f_X13_thrown, zz_b, if_pos (show (1 : Int32) = 1 from rfl), if_neg (show ¬ ((1 : Int32) = 0) by decide)]
    exact ⟨_, rfl, zz_Q_m hle hR.1, zz_S_m hle hR.2.1, hR.2.2⟩
  · rw [g_law56, f_L_undo, c1, zz_b, if_pos (show (0 : Nat) = 0 from rfl), zz_b, c2, zz_b, f_X13_thrown, zz_b, if_pos (show (0 : Int32) = 0 from rfl), if_pos (show (0 : Int32) = 0 from rfl), if_pos (zz_cmp _ _)]
    exact ⟨_, rfl, zz_Q_m hle c3, zz_S_m hle hR.2.1, hR.2.2⟩
theorem st_57 : g_ok57 zz_RR := by
  intro j hj a0 a1 a2 a3 a4 a5 a6 a7 a8 a9 a10 a11 a12 a13 a14 a15 a16 a17 a18 a19 a20 a21 a22 a23 a24 a25 a26 a27 a28 a29 a30 a31 a32 a33 a34 a35 a36 a37 a38 a39 a40 a41 a42 a43 a44 a45 a46 a47 a48 a49 a50 a51 a52 a53 a54 a55 a56 a57 a58 a59 a60 a61 a62 a63 a64 a65 a66 a67 a68 a69 a70 a71 a72 a73 a74 a75 a76 a77 a78 a79 p3 p4 x1 x2 x3 x4 hR
  obtain ⟨S, T, fr, n, ir, ib, io, ip, il, jf, pr, pb, pp, pl, pf, hM, hf, hm, hch, hH⟩ := zz_out hR
  obtain ⟨K, hK⟩ : ∃ K, 9000000 ≤ K := ⟨9000000, Nat.le_refl _⟩
  have hle : 60 * j ≤ 60 * (j + 1) := by omega
  refine ⟨K, ?_⟩
  obtain ⟨N, w, c1, c2, c3, c4⟩ := zp_save (M := (a0, a1, a2, a3, a4, a5, a6, a7, a8, a9, a10, a11, a12, a13, a14, a15)) (U := (a16, a17, a18, a19, a20, a21, a22, a23, a24, a25, a26, a27, a28, a29, a30, a31)) (K := K) (saved := a61) (by omega) ⟨ir, ib, io, ip, il, jf⟩ ⟨pr, pb, pp, pl, pf⟩ hM
  rw [g_law57, c1, zz_b, c2, zz_b, if_pos rfl]
  exact ⟨_, rfl, zz_Q_m hle hR.1, Or.inr ⟨rfl, rfl, S, zz_Inv_m hle ⟨ir, ib, io, ip, il, jf⟩, c3, c4⟩, hR.2.2⟩
theorem st_58 : g_ok58 zz_RR := by
  intro j hj a0 a1 a2 a3 a4 a5 a6 a7 a8 a9 a10 a11 a12 a13 a14 a15 a16 a17 a18 a19 a20 a21 a22 a23 a24 a25 a26 a27 a28 a29 a30 a31 a32 a33 a34 a35 a36 a37 a38 a39 a40 a41 a42 a43 a44 a45 a46 a47 a48 a49 a50 a51 a52 a53 a54 a55 a56 a57 a58 a59 a60 a61 a62 a63 a64 a65 a66 a67 a68 a69 a70 a71 a72 a73 a74 a75 a76 a77 a78 a79 p3 p4 x1 x2 x3 x4 hR
  obtain ⟨S, T, fr, n, ir, ib, io, ip, il, jf, pr, pb, pp, pl, pf, hM, hf, hm, hch, hH⟩ := zz_out hR
  obtain ⟨K, hK⟩ : ∃ K, 9000000 ≤ K := ⟨9000000, Nat.le_refl _⟩
  have hle : 60 * j ≤ 60 * (j + 1) := by omega
  refine ⟨K, ?_⟩
  rcases hR.2.1 with ⟨h1, h2⟩ | ⟨h1, h2, W, h3, h4, h5⟩
  · obtain ⟨c1, c2⟩ := zp_restore0 (M := (a0, a1, a2, a3, a4, a5, a6, a7, a8, a9, a10, a11, a12, a13, a14, a15)) (U := (a16, a17, a18, a19, a20, a21, a22, a23, a24, a25, a26, a27, a28, a29, a30, a31)) (K := K) (m := a34) (ch := a55) a61 a59
    rw [g_law58, h1, h2, f_L_restore, c1, zz_b, if_neg (show ¬ ((3 : Nat) = 0) by decide), if_pos (show (3 : Nat) = 3 from rfl), zz_b, c2, zz_b, f_X13_thrown, zz_b, if_pos (show (1 : Int32) = 1 from rfl), if_neg (show ¬ ((1 : Int32) = 0) by decide)]
    exact ⟨_, rfl, zz_Q_m hle hR.1, Or.inl ⟨rfl, rfl⟩, hR.2.2⟩
  · obtain ⟨N, w, c1, c2, c3⟩ := zp_restore (M := (a0, a1, a2, a3, a4, a5, a6, a7, a8, a9, a10, a11, a12, a13, a14, a15)) (U := (a16, a17, a18, a19, a20, a21, a22, a23, a24, a25, a26, a27, a28, a29, a30, a31)) (K := K) (by omega) hR.1 h3 h4 h5
    rw [g_law58, h1, h2, f_L_restore, c1, zz_b, if_pos (show (0 : Nat) = 0 from rfl), zz_b, c2, zz_b, f_X13_thrown, zz_b, if_pos (show (0 : Int32) = 0 from rfl), if_pos (show (0 : Int32) = 0 from rfl), if_pos (zz_cmp _ _)]
    exact ⟨_, rfl, zz_Q_m hle c3, Or.inr ⟨rfl, rfl, W, zz_Inv_m hle h3, h4, h5⟩, hR.2.2⟩
end ZSD
