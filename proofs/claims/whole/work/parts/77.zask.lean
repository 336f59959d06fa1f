-- the questions: one step of the run each
section ZST
theorem st_3 : g_ok3 zz_RR := by
  intro j hj a0 a1 a2 a3 a4 a5 a6 a7 a8 a9 a10 a11 a12 a13 a14 a15 a16 a17 a18 a19 a20 a21 a22 a23 a24 a25 a26 a27 a28 a29 a30 a31 a32 a33 a34 a35 a36 a37 a38 a39 a40 a41 a42 a43 a44 a45 a46 a47 a48 a49 a50 a51 a52 a53 a54 a55 a56 a57 a58 a59 a60 a61 a62 a63 a64 a65 a66 a67 a68 a69 a70 a71 a72 a73 a74 a75 a76 a77 a78 a79 p3 p4 x1 x2 x3 x4 hR
  obtain ⟨S, T, fr, n, ir, ib, io, ip, il, jf, pr, pb, pp, pl, pf, hM, hf, hm, hch, hH⟩ := zz_out hR
  obtain ⟨K, hK⟩ : ∃ K, 9000000 ≤ K := ⟨9000000, Nat.le_refl _⟩
  obtain ⟨cc, cv, r, e, e1, e2, h⟩ := zp_hasReed ir pr hM x1 x2
  rcases h with ⟨rfl, rfl, rfl, rfl | rfl⟩ | ⟨rfl, rfl⟩
  · rw [g_law3, f_L_hasReed, e1, zz_b, if_pos (show (0 : Nat) = 0 from rfl), if_pos (show (0 : Int32) = 0 from rfl), zz_b, e2, zz_b, f_X13_thrown, zz_b, if_pos (show (0 : Int32) = 0 from rfl), if_pos (show (0 : Int32) = 0 from rfl), if_pos (show (0 : Int32) = 0 from rfl), if_pos (zz_cmp _ _)]
    exact ⟨_, rfl, zz_R_m (by omega) hR⟩
  · rw [g_law3, f_L_hasReed, e1, zz_b, if_pos (show (0 : Nat) = 0 from rfl), if_neg (show ¬ ((1 : Int32) = 0) by decide), zz_b, e2, zz_b, f_X13_thrown, zz_b, if_pos (show (0 : Int32) = 0 from rfl), if_pos (show (0 : Int32) = 0 from rfl), if_neg (show ¬ ((1 : Int32) = 0) by decide), if_pos (zz_cmp _ _)]
    exact ⟨_, rfl, zz_R_m (by omega) hR⟩
  · rw [g_law3, f_L_hasReed, e1, zz_b, if_neg (show ¬ ((1 : Nat) = 0) by decide), if_pos (show (1 : Nat) = 1 from rfl), zz_b, e2, zz_b, f_X13_thrown, zz_b, if_pos (show (1 : Int32) = 1 from rfl), if_neg (show ¬ ((1 : Int32) = 0) by decide)]
    exact ⟨_, rfl, zz_R_m (by omega) hR⟩
theorem st_4 : g_ok4 zz_RR := by
  intro j hj a0 a1 a2 a3 a4 a5 a6 a7 a8 a9 a10 a11 a12 a13 a14 a15 a16 a17 a18 a19 a20 a21 a22 a23 a24 a25 a26 a27 a28 a29 a30 a31 a32 a33 a34 a35 a36 a37 a38 a39 a40 a41 a42 a43 a44 a45 a46 a47 a48 a49 a50 a51 a52 a53 a54 a55 a56 a57 a58 a59 a60 a61 a62 a63 a64 a65 a66 a67 a68 a69 a70 a71 a72 a73 a74 a75 a76 a77 a78 a79 p3 p4 x1 x2 x3 x4 hR
  obtain ⟨S, T, fr, n, ir, ib, io, ip, il, jf, pr, pb, pp, pl, pf, hM, hf, hm, hch, hH⟩ := zz_out hR
  obtain ⟨K, hK⟩ : ∃ K, 9000000 ≤ K := ⟨9000000, Nat.le_refl _⟩
  obtain ⟨cc, cv, r, e, e1, e2, h⟩ := zp_isPass ir pr hM x1 x2
  rcases h with ⟨rfl, rfl, rfl, rfl | rfl⟩ | ⟨rfl, rfl⟩
  · rw [g_law4, f_L_isPassable, e1, zz_b, if_pos (show (0 : Nat) = 0 from rfl), if_pos (show (0 : Int32) = 0 from rfl), zz_b, e2, zz_b, f_X13_thrown, zz_b, if_pos (show (0 : Int32) = 0 from rfl), if_pos (show (0 : Int32) = 0 from rfl), if_pos (show (0 : Int32) = 0 from rfl), if_pos (zz_cmp _ _)]
    exact ⟨_, rfl, zz_R_m (by omega) hR⟩
  · rw [g_law4, f_L_isPassable, e1, zz_b, if_pos (show (0 : Nat) = 0 from rfl), if_neg (show ¬ ((1 : Int32) = 0) by decide), zz_b, e2, zz_b, f_X13_thrown, zz_b, if_pos (show (0 : Int32) = 0 from rfl), if_pos (show (0 : Int32) = 0 from rfl), if_neg (show ¬ ((1 : Int32) = 0) by decide), if_pos (zz_cmp _ _)]
    exact ⟨_, rfl, zz_R_m (by omega) hR⟩
  · rw [g_law4, f_L_isPassable, e1, zz_b, if_neg (show ¬ ((1 : Nat) = 0) by decide), if_pos (show (1 : Nat) = 1 from rfl), zz_b, e2, zz_b, f_X13_thrown, zz_b, if_pos (show (1 : Int32) = 1 from rfl), if_neg (show ¬ ((1 : Int32) = 0) by decide)]
    exact ⟨_, rfl, zz_R_m (by omega) hR⟩
theorem st_14 : g_ok14 zz_RR := by
  intro j hj a0 a1 a2 a3 a4 a5 a6 a7 a8 a9 a10 a11 a12 a13 a14 a15 a16 a17 a18 a19 a20 a21 a22 a23 a24 a25 a26 a27 a28 a29 a30 a31 a32 a33 a34 a35 a36 a37 a38 a39 a40 a41 a42 a43 a44 a45 a46 a47 a48 a49 a50 a51 a52 a53 a54 a55 a56 a57 a58 a59 a60 a61 a62 a63 a64 a65 a66 a67 a68 a69 a70 a71 a72 a73 a74 a75 a76 a77 a78 a79 p3 p4 x1 x2 x3 x4 hR
  obtain ⟨S, T, fr, n, ir, ib, io, ip, il, jf, pr, pb, pp, pl, pf, hM, hf, hm, hch, hH⟩ := zz_out hR
  obtain ⟨K, hK⟩ : ∃ K, 9000000 ≤ K := ⟨9000000, Nat.le_refl _⟩
  obtain ⟨cc, cv, r, e, e1, e2, h⟩ := zp_boatAt ib pb hM x1
  rcases h with ⟨rfl, rfl, rfl⟩ | ⟨rfl, rfl⟩
  · rw [g_law14, f_L_boatAt, e1, zz_b, if_pos (show (0 : Nat) = 0 from rfl), zz_b, e2, zz_b, f_X13_thrown, zz_b, if_pos (show (0 : Int32) = 0 from rfl), if_pos (show (0 : Int32) = 0 from rfl), if_pos (zz_cmp _ _)]
    exact ⟨_, rfl, zz_R_m (by omega) hR⟩
  · rw [g_law14, f_L_boatAt, e1, zz_b, if_neg (show ¬ ((1 : Nat) = 0) by decide), if_pos (show (1 : Nat) = 1 from rfl), zz_b, e2, zz_b, f_X13_thrown, zz_b, if_pos (show (1 : Int32) = 1 from rfl), if_neg (show ¬ ((1 : Int32) = 0) by decide)]
    exact ⟨_, rfl, zz_R_m (by omega) hR⟩
theorem st_15 : g_ok15 zz_RR := by
  intro j hj a0 a1 a2 a3 a4 a5 a6 a7 a8 a9 a10 a11 a12 a13 a14 a15 a16 a17 a18 a19 a20 a21 a22 a23 a24 a25 a26 a27 a28 a29 a30 a31 a32 a33 a34 a35 a36 a37 a38 a39 a40 a41 a42 a43 a44 a45 a46 a47 a48 a49 a50 a51 a52 a53 a54 a55 a56 a57 a58 a59 a60 a61 a62 a63 a64 a65 a66 a67 a68 a69 a70 a71 a72 a73 a74 a75 a76 a77 a78 a79 p3 p4 x1 x2 x3 x4 hR
  obtain ⟨S, T, fr, n, ir, ib, io, ip, il, jf, pr, pb, pp, pl, pf, hM, hf, hm, hch, hH⟩ := zz_out hR
  obtain ⟨K, hK⟩ : ∃ K, 9000000 ≤ K := ⟨9000000, Nat.le_refl _⟩
  obtain ⟨cc, cv, r, e, e1, e2, h⟩ := zp_column (K := K) ib pb hM (by omega) x1
  refine ⟨K, ?_⟩
  rcases h with ⟨rfl, rfl, rfl⟩ | ⟨rfl, rfl⟩
  · rw [g_law15, f_L_columnOf, e1, zz_b, if_pos (show (0 : Nat) = 0 from rfl), zz_b, e2, zz_b, f_X13_thrown, zz_b, if_pos (show (0 : Int32) = 0 from rfl), if_pos (show (0 : Int32) = 0 from rfl), if_pos (zz_cmp _ _)]
    exact ⟨_, rfl, zz_R_m (by omega) hR⟩
  · rw [g_law15, f_L_columnOf, e1, zz_b, if_neg (show ¬ ((2 : Nat) = 0) by decide), if_pos (show (2 : Nat) = 2 from rfl), zz_b, e2, zz_b, f_X13_thrown, zz_b, if_pos (show (1 : Int32) = 1 from rfl), if_neg (show ¬ ((1 : Int32) = 0) by decide)]
    exact ⟨_, rfl, zz_R_m (by omega) hR⟩
theorem st_16 : g_ok16 zz_RR := by
  intro j hj a0 a1 a2 a3 a4 a5 a6 a7 a8 a9 a10 a11 a12 a13 a14 a15 a16 a17 a18 a19 a20 a21 a22 a23 a24 a25 a26 a27 a28 a29 a30 a31 a32 a33 a34 a35 a36 a37 a38 a39 a40 a41 a42 a43 a44 a45 a46 a47 a48 a49 a50 a51 a52 a53 a54 a55 a56 a57 a58 a59 a60 a61 a62 a63 a64 a65 a66 a67 a68 a69 a70 a71 a72 a73 a74 a75 a76 a77 a78 a79 p3 p4 x1 x2 x3 x4 hR
  obtain ⟨S, T, fr, n, ir, ib, io, ip, il, jf, pr, pb, pp, pl, pf, hM, hf, hm, hch, hH⟩ := zz_out hR
  obtain ⟨K, hK⟩ : ∃ K, 9000000 ≤ K := ⟨9000000, Nat.le_refl _⟩
  obtain ⟨cc, cv, r, e, e1, e2, h⟩ := zp_rowOf (K := K) ib pb hM (by omega) x1
  refine ⟨K, ?_⟩
  rcases h with ⟨rfl, rfl, rfl⟩ | ⟨rfl, rfl⟩
  · rw [g_law16, f_L_rowOf, e1, zz_b, if_pos (show (0 : Nat) = 0 from rfl), zz_b, e2, zz_b, f_X13_thrown, zz_b, if_pos (show (0 : Int32) = 0 from rfl), if_pos (show (0 : Int32) = 0 from rfl), if_pos (zz_cmp _ _)]
    exact ⟨_, rfl, zz_R_m (by omega) hR⟩
  · rw [g_law16, f_L_rowOf, e1, zz_b, if_neg (show ¬ ((2 : Nat) = 0) by decide), if_pos (show (2 : Nat) = 2 from rfl), zz_b, e2, zz_b, f_X13_thrown, zz_b, if_pos (show (1 : Int32) = 1 from rfl), if_neg (show ¬ ((1 : Int32) = 0) by decide)]
    exact ⟨_, rfl, zz_R_m (by omega) hR⟩
theorem st_17 : g_ok17 zz_RR := by
  intro j hj a0 a1 a2 a3 a4 a5 a6 a7 a8 a9 a10 a11 a12 a13 a14 a15 a16 a17 a18 a19 a20 a21 a22 a23 a24 a25 a26 a27 a28 a29 a30 a31 a32 a33 a34 a35 a36 a37 a38 a39 a40 a41 a42 a43 a44 a45 a46 a47 a48 a49 a50 a51 a52 a53 a54 a55 a56 a57 a58 a59 a60 a61 a62 a63 a64 a65 a66 a67 a68 a69 a70 a71 a72 a73 a74 a75 a76 a77 a78 a79 p3 p4 x1 x2 x3 x4 hR
  obtain ⟨S, T, fr, n, ir, ib, io, ip, il, jf, pr, pb, pp, pl, pf, hM, hf, hm, hch, hH⟩ := zz_out hR
  obtain ⟨K, hK⟩ : ∃ K, 9000000 ≤ K := ⟨9000000, Nat.le_refl _⟩
  obtain ⟨cc, cv, r, e, e1, e2, h⟩ := zp_imcol (K := K) ib pb hM (by omega) x1
  refine ⟨K, ?_⟩
  rcases h with ⟨rfl, rfl, rfl⟩ | ⟨rfl, rfl⟩
  · rw [g_law17, f_L_imageColumnOf, e1, zz_b, if_pos (show (0 : Nat) = 0 from rfl), zz_b, e2, zz_b, f_X13_thrown, zz_b, if_pos (show (0 : Int32) = 0 from rfl), if_pos (show (0 : Int32) = 0 from rfl), if_pos (zz_cmp _ _)]
    exact ⟨_, rfl, zz_R_m (by omega) hR⟩
  · rw [g_law17, f_L_imageColumnOf, e1, zz_b, if_neg (show ¬ ((2 : Nat) = 0) by decide), if_pos (show (2 : Nat) = 2 from rfl), zz_b, e2, zz_b, f_X13_thrown, zz_b, if_pos (show (1 : Int32) = 1 from rfl), if_neg (show ¬ ((1 : Int32) = 0) by decide)]
    exact ⟨_, rfl, zz_R_m (by omega) hR⟩
theorem st_18 : g_ok18 zz_RR := by
  intro j hj a0 a1 a2 a3 a4 a5 a6 a7 a8 a9 a10 a11 a12 a13 a14 a15 a16 a17 a18 a19 a20 a21 a22 a23 a24 a25 a26 a27 a28 a29 a30 a31 a32 a33 a34 a35 a36 a37 a38 a39 a40 a41 a42 a43 a44 a45 a46 a47 a48 a49 a50 a51 a52 a53 a54 a55 a56 a57 a58 a59 a60 a61 a62 a63 a64 a65 a66 a67 a68 a69 a70 a71 a72 a73 a74 a75 a76 a77 a78 a79 p3 p4 x1 x2 x3 x4 hR
  obtain ⟨S, T, fr, n, ir, ib, io, ip, il, jf, pr, pb, pp, pl, pf, hM, hf, hm, hch, hH⟩ := zz_out hR
  obtain ⟨K, hK⟩ : ∃ K, 9000000 ≤ K := ⟨9000000, Nat.le_refl _⟩
  obtain ⟨cc, cv, r, e, e1, e2, h⟩ := zp_fares (K := K) ib pb hM (by omega) x1
  refine ⟨K, ?_⟩
  rcases h with ⟨rfl, rfl, rfl⟩ | ⟨rfl, rfl⟩
  · rw [g_law18, f_L_faresOf, e1, zz_b, if_pos (show (0 : Nat) = 0 from rfl), zz_b, e2, zz_b, f_X13_thrown, zz_b, if_pos (show (0 : Int32) = 0 from rfl), if_pos (show (0 : Int32) = 0 from rfl), if_pos (zz_cmp _ _)]
    exact ⟨_, rfl, zz_R_m (by omega) hR⟩
  · rw [g_law18, f_L_faresOf, e1, zz_b, if_neg (show ¬ ((2 : Nat) = 0) by decide), if_pos (show (2 : Nat) = 2 from rfl), zz_b, e2, zz_b, f_X13_thrown, zz_b, if_pos (show (1 : Int32) = 1 from rfl), if_neg (show ¬ ((1 : Int32) = 0) by decide)]
    exact ⟨_, rfl, zz_R_m (by omega) hR⟩
theorem st_19 : g_ok19 zz_RR := by
  intro j hj a0 a1 a2 a3 a4 a5 a6 a7 a8 a9 a10 a11 a12 a13 a14 a15 a16 a17 a18 a19 a20 a21 a22 a23 a24 a25 a26 a27 a28 a29 a30 a31 a32 a33 a34 a35 a36 a37 a38 a39 a40 a41 a42 a43 a44 a45 a46 a47 a48 a49 a50 a51 a52 a53 a54 a55 a56 a57 a58 a59 a60 a61 a62 a63 a64 a65 a66 a67 a68 a69 a70 a71 a72 a73 a74 a75 a76 a77 a78 a79 p3 p4 x1 x2 x3 x4 hR
  obtain ⟨S, T, fr, n, ir, ib, io, ip, il, jf, pr, pb, pp, pl, pf, hM, hf, hm, hch, hH⟩ := zz_out hR
  obtain ⟨K, hK⟩ : ∃ K, 9000000 ≤ K := ⟨9000000, Nat.le_refl _⟩
  obtain ⟨cc, cv, r, e, e1, e2, h⟩ := zp_rank (K := K) (by omega) ib pb hM (by omega) x1
  refine ⟨K, ?_⟩
  rcases h with ⟨rfl, rfl, rfl⟩ | ⟨rfl, rfl⟩
  · rw [g_law19, f_L_boatAtRank, e1, zz_b, if_pos (show (0 : Nat) = 0 from rfl), zz_b, e2, zz_b, f_X13_thrown, zz_b, if_pos (show (0 : Int32) = 0 from rfl), if_pos (show (0 : Int32) = 0 from rfl), if_pos (zz_cmp _ _)]
    exact ⟨_, rfl, zz_R_m (by omega) hR⟩
  · rw [g_law19, f_L_boatAtRank, e1, zz_b, if_neg (show ¬ ((2 : Nat) = 0) by decide), if_pos (show (2 : Nat) = 2 from rfl), zz_b, e2, zz_b, f_X13_thrown, zz_b, if_pos (show (1 : Int32) = 1 from rfl), if_neg (show ¬ ((1 : Int32) = 0) by decide)]
    exact ⟨_, rfl, zz_R_m (by omega) hR⟩
theorem st_25 : g_ok25 zz_RR := by
  intro j hj a0 a1 a2 a3 a4 a5 a6 a7 a8 a9 a10 a11 a12 a13 a14 a15 a16 a17 a18 a19 a20 a21 a22 a23 a24 a25 a26 a27 a28 a29 a30 a31 a32 a33 a34 a35 a36 a37 a38 a39 a40 a41 a42 a43 a44 a45 a46 a47 a48 a49 a50 a51 a52 a53 a54 a55 a56 a57 a58 a59 a60 a61 a62 a63 a64 a65 a66 a67 a68 a69 a70 a71 a72 a73 a74 a75 a76 a77 a78 a79 p3 p4 x1 x2 x3 x4 hR
  obtain ⟨S, T, fr, n, ir, ib, io, ip, il, jf, pr, pb, pp, pl, pf, hM, hf, hm, hch, hH⟩ := zz_out hR
  obtain ⟨K, hK⟩ : ∃ K, 9000000 ≤ K := ⟨9000000, Nat.le_refl _⟩
  obtain ⟨cc, cv, s, r, e, s', e1, e2, h⟩ := zp_redLen (K := K) ip pp hM (by omega) a50 a64 x1
  refine ⟨K, ?_⟩
  rcases h with ⟨rfl, rfl, rfl⟩ | ⟨rfl, rfl⟩
  · rw [g_law25, f_L_reducedLength, e1, zz_b, if_pos (show (0 : Nat) = 0 from rfl), zz_b, e2, zz_b, f_X13_thrown, zz_b, if_pos (show (0 : Int32) = 0 from rfl), if_pos (show (0 : Int32) = 0 from rfl), if_pos (zz_cmp _ _)]
    exact ⟨_, rfl, zz_R_m (by omega) hR⟩
  · rw [g_law25, f_L_reducedLength, e1, zz_b, if_neg (show ¬ ((1 : Nat) = 0) by decide), if_pos (show (1 : Nat) = 1 from rfl), zz_b, e2, zz_b, f_X13_thrown, zz_b, if_pos (show (1 : Int32) = 1 from rfl), if_neg (show ¬ ((1 : Int32) = 0) by decide)]
    exact ⟨_, rfl, zz_R_m (by omega) hR⟩
theorem st_26 : g_ok26 zz_RR := by
  intro j hj a0 a1 a2 a3 a4 a5 a6 a7 a8 a9 a10 a11 a12 a13 a14 a15 a16 a17 a18 a19 a20 a21 a22 a23 a24 a25 a26 a27 a28 a29 a30 a31 a32 a33 a34 a35 a36 a37 a38 a39 a40 a41 a42 a43 a44 a45 a46 a47 a48 a49 a50 a51 a52 a53 a54 a55 a56 a57 a58 a59 a60 a61 a62 a63 a64 a65 a66 a67 a68 a69 a70 a71 a72 a73 a74 a75 a76 a77 a78 a79 p3 p4 x1 x2 x3 x4 hR
  obtain ⟨S, T, fr, n, ir, ib, io, ip, il, jf, pr, pb, pp, pl, pf, hM, hf, hm, hch, hH⟩ := zz_out hR
  obtain ⟨K, hK⟩ : ∃ K, 9000000 ≤ K := ⟨9000000, Nat.le_refl _⟩
  obtain ⟨cc, cv, r, e, e1, e2, h⟩ := zp_planLen ip pp hM x1
  rcases h with ⟨rfl, rfl, rfl⟩ | ⟨rfl, rfl⟩
  · rw [g_law26, f_L_planLength, e1, zz_b, if_pos (show (0 : Nat) = 0 from rfl), zz_b, e2, zz_b, f_X13_thrown, zz_b, if_pos (show (0 : Int32) = 0 from rfl), if_pos (show (0 : Int32) = 0 from rfl), if_pos (zz_cmp _ _)]
    exact ⟨_, rfl, zz_R_m (by omega) hR⟩
  · rw [g_law26, f_L_planLength, e1, zz_b, if_neg (show ¬ ((1 : Nat) = 0) by decide), if_pos (show (1 : Nat) = 1 from rfl), zz_b, e2, zz_b, f_X13_thrown, zz_b, if_pos (show (1 : Int32) = 1 from rfl), if_neg (show ¬ ((1 : Int32) = 0) by decide)]
    exact ⟨_, rfl, zz_R_m (by omega) hR⟩
theorem st_27 : g_ok27 zz_RR := by
  intro j hj a0 a1 a2 a3 a4 a5 a6 a7 a8 a9 a10 a11 a12 a13 a14 a15 a16 a17 a18 a19 a20 a21 a22 a23 a24 a25 a26 a27 a28 a29 a30 a31 a32 a33 a34 a35 a36 a37 a38 a39 a40 a41 a42 a43 a44 a45 a46 a47 a48 a49 a50 a51 a52 a53 a54 a55 a56 a57 a58 a59 a60 a61 a62 a63 a64 a65 a66 a67 a68 a69 a70 a71 a72 a73 a74 a75 a76 a77 a78 a79 p3 p4 x1 x2 x3 x4 hR
  obtain ⟨S, T, fr, n, ir, ib, io, ip, il, jf, pr, pb, pp, pl, pf, hM, hf, hm, hch, hH⟩ := zz_out hR
  obtain ⟨K, hK⟩ : ∃ K, 9000000 ≤ K := ⟨9000000, Nat.le_refl _⟩
  obtain ⟨cc, cv, r, e, e1, e2, h⟩ := zp_moveAt ip pp hM x1 x2
  rcases h with ⟨rfl, rfl, rfl⟩ | ⟨rfl, rfl⟩ | ⟨rfl, rfl⟩
  · rw [g_law27, f_L_moveAt, e1, zz_b, if_pos (show (0 : Nat) = 0 from rfl), zz_b, e2, zz_b, f_X13_thrown, zz_b, if_pos (show (0 : Int32) = 0 from rfl), if_pos (show (0 : Int32) = 0 from rfl), if_pos (zz_cmp _ _)]
    exact ⟨_, rfl, zz_R_m (by omega) hR⟩
  · rw [g_law27, f_L_moveAt, e1, zz_b, if_neg (show ¬ ((1 : Nat) = 0) by decide), if_pos (show (1 : Nat) = 1 from rfl), zz_b, e2, zz_b, f_X13_thrown, zz_b, if_pos (show (1 : Int32) = 1 from rfl), if_neg (show ¬ ((1 : Int32) = 0) by decide)]
    exact ⟨_, rfl, zz_R_m (by omega) hR⟩
  · rw [g_law27, f_L_moveAt, e1, zz_b, if_neg (show ¬ ((2 : Nat) = 0) by decide), if_neg (show ¬ ((2 : Nat) = 1) by decide), if_pos (show (2 : Nat) = 2 from rfl), zz_b, e2, zz_b, f_X13_thrown, zz_b, if_pos (show (2 : Int32) = 2 from rfl), if_neg (show ¬ ((2 : Int32) = 0) by decide)]
    exact ⟨_, rfl, zz_R_m (by omega) hR⟩
theorem st_28 : g_ok28 zz_RR := by
  intro j hj a0 a1 a2 a3 a4 a5 a6 a7 a8 a9 a10 a11 a12 a13 a14 a15 a16 a17 a18 a19 a20 a21 a22 a23 a24 a25 a26 a27 a28 a29 a30 a31 a32 a33 a34 a35 a36 a37 a38 a39 a40 a41 a42 a43 a44 a45 a46 a47 a48 a49 a50 a51 a52 a53 a54 a55 a56 a57 a58 a59 a60 a61 a62 a63 a64 a65 a66 a67 a68 a69 a70 a71 a72 a73 a74 a75 a76 a77 a78 a79 p3 p4 x1 x2 x3 x4 hR
  obtain ⟨S, T, fr, n, ir, ib, io, ip, il, jf, pr, pb, pp, pl, pf, hM, hf, hm, hch, hH⟩ := zz_out hR
  obtain ⟨K, hK⟩ : ∃ K, 9000000 ≤ K := ⟨9000000, Nat.le_refl _⟩
  obtain ⟨cc, cv, r, e, e1, e2, h⟩ := zp_areMirr (K := K) ip pp hM (by omega) x1 x2
  refine ⟨K, ?_⟩
  rcases h with ⟨rfl, rfl, rfl, rfl | rfl⟩ | ⟨rfl, rfl⟩
  · rw [g_law28, f_L_areMirrored, e1, zz_b, if_pos (show (0 : Nat) = 0 from rfl), if_pos (show (0 : Int32) = 0 from rfl), zz_b, e2, zz_b, f_X13_thrown, zz_b, if_pos (show (0 : Int32) = 0 from rfl), if_pos (show (0 : Int32) = 0 from rfl), if_pos (show (0 : Int32) = 0 from rfl), if_pos (zz_cmp _ _)]
    exact ⟨_, rfl, zz_R_m (by omega) hR⟩
  · rw [g_law28, f_L_areMirrored, e1, zz_b, if_pos (show (0 : Nat) = 0 from rfl), if_neg (show ¬ ((1 : Int32) = 0) by decide), zz_b, e2, zz_b, f_X13_thrown, zz_b, if_pos (show (0 : Int32) = 0 from rfl), if_pos (show (0 : Int32) = 0 from rfl), if_neg (show ¬ ((1 : Int32) = 0) by decide), if_pos (zz_cmp _ _)]
    exact ⟨_, rfl, zz_R_m (by omega) hR⟩
  · rw [g_law28, f_L_areMirrored, e1, zz_b, if_neg (show ¬ ((1 : Nat) = 0) by decide), if_pos (show (1 : Nat) = 1 from rfl), zz_b, e2, zz_b, f_X13_thrown, zz_b, if_pos (show (1 : Int32) = 1 from rfl), if_neg (show ¬ ((1 : Int32) = 0) by decide)]
    exact ⟨_, rfl, zz_R_m (by omega) hR⟩
theorem st_30 : g_ok30 zz_RR := by
  intro j hj a0 a1 a2 a3 a4 a5 a6 a7 a8 a9 a10 a11 a12 a13 a14 a15 a16 a17 a18 a19 a20 a21 a22 a23 a24 a25 a26 a27 a28 a29 a30 a31 a32 a33 a34 a35 a36 a37 a38 a39 a40 a41 a42 a43 a44 a45 a46 a47 a48 a49 a50 a51 a52 a53 a54 a55 a56 a57 a58 a59 a60 a61 a62 a63 a64 a65 a66 a67 a68 a69 a70 a71 a72 a73 a74 a75 a76 a77 a78 a79 p3 p4 x1 x2 x3 x4 hR
  obtain ⟨S, T, fr, n, ir, ib, io, ip, il, jf, pr, pb, pp, pl, pf, hM, hf, hm, hch, hH⟩ := zz_out hR
  obtain ⟨K, hK⟩ : ∃ K, 9000000 ≤ K := ⟨9000000, Nat.le_refl _⟩
  obtain ⟨cc, cv, r, e, tx', ty', tm', e1, e2, h⟩ := zp_blocked (K := K) pr.1 ir ib ip pb pp hM (by omega) a66 a67 a68 x1 x2
  refine ⟨K, ?_⟩
  rcases h with ⟨rfl, rfl, rfl⟩ | ⟨rfl, rfl⟩ | ⟨rfl, rfl⟩
  · rw [g_law30, f_L_blockedMove, e1, zz_b, if_pos (show (0 : Nat) = 0 from rfl), zz_b, e2, zz_b, f_X13_thrown, zz_b, if_pos (show (0 : Int32) = 0 from rfl), if_pos (show (0 : Int32) = 0 from rfl), if_pos (zz_cmp _ _)]
    exact ⟨_, rfl, zz_R_m (by omega) hR⟩
  · rw [g_law30, f_L_blockedMove, e1, zz_b, if_neg (show ¬ ((2 : Nat) = 0) by decide), if_pos (show (2 : Nat) = 2 from rfl), zz_b, e2, zz_b, f_X13_thrown, zz_b, if_pos (show (1 : Int32) = 1 from rfl), if_neg (show ¬ ((1 : Int32) = 0) by decide)]
    exact ⟨_, rfl, zz_R_m (by omega) hR⟩
  · rw [g_law30, f_L_blockedMove, e1, zz_b, if_neg (show ¬ ((1 : Nat) = 0) by decide), if_neg (show ¬ ((1 : Nat) = 2) by decide), if_pos (show (1 : Nat) = 1 from rfl), zz_b, e2, zz_b, f_X13_thrown, zz_b, if_pos (show (2 : Int32) = 2 from rfl), if_neg (show ¬ ((2 : Int32) = 0) by decide)]
    exact ⟨_, rfl, zz_R_m (by omega) hR⟩
theorem st_31 : g_ok31 zz_RR := by
  intro j hj a0 a1 a2 a3 a4 a5 a6 a7 a8 a9 a10 a11 a12 a13 a14 a15 a16 a17 a18 a19 a20 a21 a22 a23 a24 a25 a26 a27 a28 a29 a30 a31 a32 a33 a34 a35 a36 a37 a38 a39 a40 a41 a42 a43 a44 a45 a46 a47 a48 a49 a50 a51 a52 a53 a54 a55 a56 a57 a58 a59 a60 a61 a62 a63 a64 a65 a66 a67 a68 a69 a70 a71 a72 a73 a74 a75 a76 a77 a78 a79 p3 p4 x1 x2 x3 x4 hR
  obtain ⟨S, T, fr, n, ir, ib, io, ip, il, jf, pr, pb, pp, pl, pf, hM, hf, hm, hch, hH⟩ := zz_out hR
  obtain ⟨K, hK⟩ : ∃ K, 9000000 ≤ K := ⟨9000000, Nat.le_refl _⟩
  obtain ⟨cc, cv, t, q, f, r, e, far', e1, e2, h⟩ := zp_wayL hK pr.1 ir ib io pb hM a35 a36 a39 a63 x1 x2 x3
  refine ⟨K, ?_⟩
  rcases h with ⟨rfl, rfl, rfl⟩ | ⟨rfl, rfl⟩ | ⟨rfl, rfl⟩
  · rw [g_law31, f_L_wayLength, e1, zz_b, if_pos (show (0 : Nat) = 0 from rfl), zz_b, e2, zz_b, f_X13_thrown, zz_b, if_pos (show (0 : Int32) = 0 from rfl), if_pos (show (0 : Int32) = 0 from rfl), if_pos (zz_cmp _ _)]
    exact ⟨_, rfl, zz_R_m (by omega) hR⟩
  · rw [g_law31, f_L_wayLength, e1, zz_b, if_neg (show ¬ ((2 : Nat) = 0) by decide), if_pos (show (2 : Nat) = 2 from rfl), zz_b, e2, zz_b, f_X13_thrown, zz_b, if_pos (show (1 : Int32) = 1 from rfl), if_neg (show ¬ ((1 : Int32) = 0) by decide)]
    exact ⟨_, rfl, zz_R_m (by omega) hR⟩
  · rw [g_law31, f_L_wayLength, e1, zz_b, if_neg (show ¬ ((1 : Nat) = 0) by decide), if_neg (show ¬ ((1 : Nat) = 2) by decide), if_pos (show (1 : Nat) = 1 from rfl), zz_b, e2, zz_b, f_X13_thrown, zz_b, if_pos (show (2 : Int32) = 2 from rfl), if_neg (show ¬ ((2 : Int32) = 0) by decide)]
    exact ⟨_, rfl, zz_R_m (by omega) hR⟩
theorem st_32 : g_ok32 zz_RR := by
  intro j hj a0 a1 a2 a3 a4 a5 a6 a7 a8 a9 a10 a11 a12 a13 a14 a15 a16 a17 a18 a19 a20 a21 a22 a23 a24 a25 a26 a27 a28 a29 a30 a31 a32 a33 a34 a35 a36 a37 a38 a39 a40 a41 a42 a43 a44 a45 a46 a47 a48 a49 a50 a51 a52 a53 a54 a55 a56 a57 a58 a59 a60 a61 a62 a63 a64 a65 a66 a67 a68 a69 a70 a71 a72 a73 a74 a75 a76 a77 a78 a79 p3 p4 x1 x2 x3 x4 hR
  obtain ⟨S, T, fr, n, ir, ib, io, ip, il, jf, pr, pb, pp, pl, pf, hM, hf, hm, hch, hH⟩ := zz_out hR
  obtain ⟨K, hK⟩ : ∃ K, 9000000 ≤ K := ⟨9000000, Nat.le_refl _⟩
  obtain ⟨cc, cv, t, f, r, e, far', e1, e2, h⟩ := zp_wayR hK pr.1 ir ib io pb hM a35 a40 a63 x1 x2 x3
  refine ⟨K, ?_⟩
  rcases h with ⟨rfl, rfl, rfl⟩ | ⟨rfl, rfl⟩ | ⟨rfl, rfl⟩
  · rw [g_law32, f_L_wayLengthByRounds, e1, zz_b, if_pos (show (0 : Nat) = 0 from rfl), zz_b, e2, zz_b, f_X13_thrown, zz_b, if_pos (show (0 : Int32) = 0 from rfl), if_pos (show (0 : Int32) = 0 from rfl), if_pos (zz_cmp _ _)]
    exact ⟨_, rfl, zz_R_m (by omega) hR⟩
  · rw [g_law32, f_L_wayLengthByRounds, e1, zz_b, if_neg (show ¬ ((2 : Nat) = 0) by decide), if_pos (show (2 : Nat) = 2 from rfl), zz_b, e2, zz_b, f_X13_thrown, zz_b, if_pos (show (1 : Int32) = 1 from rfl), if_neg (show ¬ ((1 : Int32) = 0) by decide)]
    exact ⟨_, rfl, zz_R_m (by omega) hR⟩
  · rw [g_law32, f_L_wayLengthByRounds, e1, zz_b, if_neg (show ¬ ((1 : Nat) = 0) by decide), if_neg (show ¬ ((1 : Nat) = 2) by decide), if_pos (show (1 : Nat) = 1 from rfl), zz_b, e2, zz_b, f_X13_thrown, zz_b, if_pos (show (2 : Int32) = 2 from rfl), if_neg (show ¬ ((2 : Int32) = 0) by decide)]
    exact ⟨_, rfl, zz_R_m (by omega) hR⟩
theorem st_33 : g_ok33 zz_RR := by
  intro j hj a0 a1 a2 a3 a4 a5 a6 a7 a8 a9 a10 a11 a12 a13 a14 a15 a16 a17 a18 a19 a20 a21 a22 a23 a24 a25 a26 a27 a28 a29 a30 a31 a32 a33 a34 a35 a36 a37 a38 a39 a40 a41 a42 a43 a44 a45 a46 a47 a48 a49 a50 a51 a52 a53 a54 a55 a56 a57 a58 a59 a60 a61 a62 a63 a64 a65 a66 a67 a68 a69 a70 a71 a72 a73 a74 a75 a76 a77 a78 a79 p3 p4 x1 x2 x3 x4 hR
  obtain ⟨S, T, fr, n, ir, ib, io, ip, il, jf, pr, pb, pp, pl, pf, hM, hf, hm, hch, hH⟩ := zz_out hR
  obtain ⟨K, hK⟩ : ∃ K, 9000000 ≤ K := ⟨9000000, Nat.le_refl _⟩
  obtain ⟨cc, cv, t, q, m, f, r, e, far', e1, e2, h⟩ := zp_wayC hK pr.1 ir ib io jf pf pb hM a35 a37 a39 a63 a38 x1 x2 x3
  refine ⟨K, ?_⟩
  rcases h with ⟨rfl, rfl, rfl⟩ | ⟨rfl, rfl⟩ | ⟨rfl, rfl⟩
  · rw [g_law33, f_L_wayCost, e1, zz_b, if_pos (show (0 : Nat) = 0 from rfl), zz_b, e2, zz_b, f_X13_thrown, zz_b, if_pos (show (0 : Int32) = 0 from rfl), if_pos (show (0 : Int32) = 0 from rfl), if_pos (zz_cmp _ _)]
    exact ⟨_, rfl, zz_R_m (by omega) hR⟩
  · rw [g_law33, f_L_wayCost, e1, zz_b, if_neg (show ¬ ((2 : Nat) = 0) by decide), if_pos (show (2 : Nat) = 2 from rfl), zz_b, e2, zz_b, f_X13_thrown, zz_b, if_pos (show (1 : Int32) = 1 from rfl), if_neg (show ¬ ((1 : Int32) = 0) by decide)]
    exact ⟨_, rfl, zz_R_m (by omega) hR⟩
  · rw [g_law33, f_L_wayCost, e1, zz_b, if_neg (show ¬ ((1 : Nat) = 0) by decide), if_neg (show ¬ ((1 : Nat) = 2) by decide), if_pos (show (1 : Nat) = 1 from rfl), zz_b, e2, zz_b, f_X13_thrown, zz_b, if_pos (show (2 : Int32) = 2 from rfl), if_neg (show ¬ ((2 : Int32) = 0) by decide)]
    exact ⟨_, rfl, zz_R_m (by omega) hR⟩
theorem st_34 : g_ok34 zz_RR := by
  intro j hj a0 a1 a2 a3 a4 a5 a6 a7 a8 a9 a10 a11 a12 a13 a14 a15 a16 a17 a18 a19 a20 a21 a22 a23 a24 a25 a26 a27 a28 a29 a30 a31 a32 a33 a34 a35 a36 a37 a38 a39 a40 a41 a42 a43 a44 a45 a46 a47 a48 a49 a50 a51 a52 a53 a54 a55 a56 a57 a58 a59 a60 a61 a62 a63 a64 a65 a66 a67 a68 a69 a70 a71 a72 a73 a74 a75 a76 a77 a78 a79 p3 p4 x1 x2 x3 x4 hR
  obtain ⟨S, T, fr, n, ir, ib, io, ip, il, jf, pr, pb, pp, pl, pf, hM, hf, hm, hch, hH⟩ := zz_out hR
  obtain ⟨K, hK⟩ : ∃ K, 9000000 ≤ K := ⟨9000000, Nat.le_refl _⟩
  obtain ⟨cc, cv, t, f, r, e, far', e1, e2, h⟩ := zp_wayCR hK pr.1 ir ib io jf pf pb hM a35 a40 a63 x1 x2 x3
  refine ⟨K, ?_⟩
  rcases h with ⟨rfl, rfl, rfl⟩ | ⟨rfl, rfl⟩ | ⟨rfl, rfl⟩
  · rw [g_law34, f_L_wayCostByRounds, e1, zz_b, if_pos (show (0 : Nat) = 0 from rfl), zz_b, e2, zz_b, f_X13_thrown, zz_b, if_pos (show (0 : Int32) = 0 from rfl), if_pos (show (0 : Int32) = 0 from rfl), if_pos (zz_cmp _ _)]
    exact ⟨_, rfl, zz_R_m (by omega) hR⟩
  · rw [g_law34, f_L_wayCostByRounds, e1, zz_b, if_neg (show ¬ ((2 : Nat) = 0) by decide), if_pos (show (2 : Nat) = 2 from rfl), zz_b, e2, zz_b, f_X13_thrown, zz_b, if_pos (show (1 : Int32) = 1 from rfl), if_neg (show ¬ ((1 : Int32) = 0) by decide)]
    exact ⟨_, rfl, zz_R_m (by omega) hR⟩
  · rw [g_law34, f_L_wayCostByRounds, e1, zz_b, if_neg (show ¬ ((1 : Nat) = 0) by decide), if_neg (show ¬ ((1 : Nat) = 2) by decide), if_pos (show (1 : Nat) = 1 from rfl), zz_b, e2, zz_b, f_X13_thrown, zz_b, if_pos (show (2 : Int32) = 2 from rfl), if_neg (show ¬ ((2 : Int32) = 0) by decide)]
    exact ⟨_, rfl, zz_R_m (by omega) hR⟩
theorem st_35 : g_ok35 zz_RR := by
  intro j hj a0 a1 a2 a3 a4 a5 a6 a7 a8 a9 a10 a11 a12 a13 a14 a15 a16 a17 a18 a19 a20 a21 a22 a23 a24 a25 a26 a27 a28 a29 a30 a31 a32 a33 a34 a35 a36 a37 a38 a39 a40 a41 a42 a43 a44 a45 a46 a47 a48 a49 a50 a51 a52 a53 a54 a55 a56 a57 a58 a59 a60 a61 a62 a63 a64 a65 a66 a67 a68 a69 a70 a71 a72 a73 a74 a75 a76 a77 a78 a79 p3 p4 x1 x2 x3 x4 hR
  obtain ⟨S, T, fr, n, ir, ib, io, ip, il, jf, pr, pb, pp, pl, pf, hM, hf, hm, hch, hH⟩ := zz_out hR
  obtain ⟨K, hK⟩ : ∃ K, 9000000 ≤ K := ⟨9000000, Nat.le_refl _⟩
  obtain ⟨cc, cv, t, q, m, f, r, e, far', e1, e2, h⟩ := zp_wayE hK pr.1 ir ib pb hM a35 a37 a39 a63 a38 x1 x2 x3
  refine ⟨K, ?_⟩
  rcases h with ⟨rfl, rfl, rfl⟩ | ⟨rfl, rfl⟩ | ⟨rfl, rfl⟩
  · rw [g_law35, f_L_breakingEffort, e1, zz_b, if_pos (show (0 : Nat) = 0 from rfl), zz_b, e2, zz_b, f_X13_thrown, zz_b, if_pos (show (0 : Int32) = 0 from rfl), if_pos (show (0 : Int32) = 0 from rfl), if_pos (zz_cmp _ _)]
    exact ⟨_, rfl, zz_R_m (by omega) hR⟩
  · rw [g_law35, f_L_breakingEffort, e1, zz_b, if_neg (show ¬ ((2 : Nat) = 0) by decide), if_pos (show (2 : Nat) = 2 from rfl), zz_b, e2, zz_b, f_X13_thrown, zz_b, if_pos (show (1 : Int32) = 1 from rfl), if_neg (show ¬ ((1 : Int32) = 0) by decide)]
    exact ⟨_, rfl, zz_R_m (by omega) hR⟩
  · rw [g_law35, f_L_breakingEffort, e1, zz_b, if_neg (show ¬ ((1 : Nat) = 0) by decide), if_neg (show ¬ ((1 : Nat) = 2) by decide), if_pos (show (1 : Nat) = 1 from rfl), zz_b, e2, zz_b, f_X13_thrown, zz_b, if_pos (show (2 : Int32) = 2 from rfl), if_neg (show ¬ ((2 : Int32) = 0) by decide)]
    exact ⟨_, rfl, zz_R_m (by omega) hR⟩
theorem st_40 : g_ok40 zz_RR := by
  intro j hj a0 a1 a2 a3 a4 a5 a6 a7 a8 a9 a10 a11 a12 a13 a14 a15 a16 a17 a18 a19 a20 a21 a22 a23 a24 a25 a26 a27 a28 a29 a30 a31 a32 a33 a34 a35 a36 a37 a38 a39 a40 a41 a42 a43 a44 a45 a46 a47 a48 a49 a50 a51 a52 a53 a54 a55 a56 a57 a58 a59 a60 a61 a62 a63 a64 a65 a66 a67 a68 a69 a70 a71 a72 a73 a74 a75 a76 a77 a78 a79 p3 p4 x1 x2 x3 x4 hR
  obtain ⟨S, T, fr, n, ir, ib, io, ip, il, jf, pr, pb, pp, pl, pf, hM, hf, hm, hch, hH⟩ := zz_out hR
  obtain ⟨K, hK⟩ : ∃ K, 9000000 ≤ K := ⟨9000000, Nat.le_refl _⟩
  obtain ⟨cc, cv, c, b, r, e, b', e1, e2, h⟩ := zp_pcost (K := K) (by omega) il pl hM a41 a42 a65
  refine ⟨K, ?_⟩
  rcases h with ⟨rfl, rfl, rfl⟩ | ⟨rfl, rfl⟩
  · rw [g_law40, f_L_pairingCost, e1, zz_b, if_pos (show (0 : Nat) = 0 from rfl), zz_b, e2, zz_b, f_X13_thrown, zz_b, if_pos (show (0 : Int32) = 0 from rfl), if_pos (show (0 : Int32) = 0 from rfl), if_pos (zz_cmp _ _)]
    exact ⟨_, rfl, zz_R_m (by omega) hR⟩
  · rw [g_law40, f_L_pairingCost, e1, zz_b, if_neg (show ¬ ((3 : Nat) = 0) by decide), if_pos (show (3 : Nat) = 3 from rfl), zz_b, e2, zz_b, f_X13_thrown, zz_b, if_pos (show (1 : Int32) = 1 from rfl), if_neg (show ¬ ((1 : Int32) = 0) by decide)]
    exact ⟨_, rfl, zz_R_m (by omega) hR⟩
theorem st_41 : g_ok41 zz_RR := by
  intro j hj a0 a1 a2 a3 a4 a5 a6 a7 a8 a9 a10 a11 a12 a13 a14 a15 a16 a17 a18 a19 a20 a21 a22 a23 a24 a25 a26 a27 a28 a29 a30 a31 a32 a33 a34 a35 a36 a37 a38 a39 a40 a41 a42 a43 a44 a45 a46 a47 a48 a49 a50 a51 a52 a53 a54 a55 a56 a57 a58 a59 a60 a61 a62 a63 a64 a65 a66 a67 a68 a69 a70 a71 a72 a73 a74 a75 a76 a77 a78 a79 p3 p4 x1 x2 x3 x4 hR
  obtain ⟨S, T, fr, n, ir, ib, io, ip, il, jf, pr, pb, pp, pl, pf, hM, hf, hm, hch, hH⟩ := zz_out hR
  obtain ⟨K, hK⟩ : ∃ K, 9000000 ≤ K := ⟨9000000, Nat.le_refl _⟩
  obtain ⟨cc, cv, c, r, e, b', e1, e2, h⟩ := zp_pcostS (K := K) (by omega) il pl hM a41 a65
  refine ⟨K, ?_⟩
  rcases h with ⟨rfl, rfl, rfl⟩ | ⟨rfl, rfl⟩
  · rw [g_law41, f_L_pairingCostBySearch, e1, zz_b, if_pos (show (0 : Nat) = 0 from rfl), zz_b, e2, zz_b, f_X13_thrown, zz_b, if_pos (show (0 : Int32) = 0 from rfl), if_pos (show (0 : Int32) = 0 from rfl), if_pos (zz_cmp _ _)]
    exact ⟨_, rfl, zz_R_m (by omega) hR⟩
  · rw [g_law41, f_L_pairingCostBySearch, e1, zz_b, if_neg (show ¬ ((3 : Nat) = 0) by decide), if_pos (show (3 : Nat) = 3 from rfl), zz_b, e2, zz_b, f_X13_thrown, zz_b, if_pos (show (1 : Int32) = 1 from rfl), if_neg (show ¬ ((1 : Int32) = 0) by decide)]
    exact ⟨_, rfl, zz_R_m (by omega) hR⟩
theorem st_42 : g_ok42 zz_RR := by
  intro j hj a0 a1 a2 a3 a4 a5 a6 a7 a8 a9 a10 a11 a12 a13 a14 a15 a16 a17 a18 a19 a20 a21 a22 a23 a24 a25 a26 a27 a28 a29 a30 a31 a32 a33 a34 a35 a36 a37 a38 a39 a40 a41 a42 a43 a44 a45 a46 a47 a48 a49 a50 a51 a52 a53 a54 a55 a56 a57 a58 a59 a60 a61 a62 a63 a64 a65 a66 a67 a68 a69 a70 a71 a72 a73 a74 a75 a76 a77 a78 a79 p3 p4 x1 x2 x3 x4 hR
  obtain ⟨S, T, fr, n, ir, ib, io, ip, il, jf, pr, pb, pp, pl, pf, hM, hf, hm, hch, hH⟩ := zz_out hR
  obtain ⟨K, hK⟩ : ∃ K, 9000000 ≤ K := ⟨9000000, Nat.le_refl _⟩
  obtain ⟨cc, cv, c, b, r, e, b', e1, e2, h⟩ := zp_partner (K := K) (by omega) il pl hM a41 a42 a65 x1
  refine ⟨K, ?_⟩
  rcases h with ⟨rfl, rfl, rfl⟩ | ⟨rfl, rfl⟩ | ⟨rfl, rfl⟩
  · rw [g_law42, f_L_partnerOf, e1, zz_b, if_pos (show (0 : Nat) = 0 from rfl), zz_b, e2, zz_b, f_X13_thrown, zz_b, if_pos (show (0 : Int32) = 0 from rfl), if_pos (show (0 : Int32) = 0 from rfl), if_pos (zz_cmp _ _)]
    exact ⟨_, rfl, zz_R_m (by omega) hR⟩
  · rw [g_law42, f_L_partnerOf, e1, zz_b, if_neg (show ¬ ((1 : Nat) = 0) by decide), if_pos (show (1 : Nat) = 1 from rfl), zz_b, e2, zz_b, f_X13_thrown, zz_b, if_pos (show (1 : Int32) = 1 from rfl), if_neg (show ¬ ((1 : Int32) = 0) by decide)]
    exact ⟨_, rfl, zz_R_m (by omega) hR⟩
  · rw [g_law42, f_L_partnerOf, e1, zz_b, if_neg (show ¬ ((3 : Nat) = 0) by decide), if_neg (show ¬ ((3 : Nat) = 1) by decide), if_pos (show (3 : Nat) = 3 from rfl), zz_b, e2, zz_b, f_X13_thrown, zz_b, if_pos (show (2 : Int32) = 2 from rfl), if_neg (show ¬ ((2 : Int32) = 0) by decide)]
    exact ⟨_, rfl, zz_R_m (by omega) hR⟩
theorem st_48 : g_ok48 zz_RR := by
  intro j hj a0 a1 a2 a3 a4 a5 a6 a7 a8 a9 a10 a11 a12 a13 a14 a15 a16 a17 a18 a19 a20 a21 a22 a23 a24 a25 a26 a27 a28 a29 a30 a31 a32 a33 a34 a35 a36 a37 a38 a39 a40 a41 a42 a43 a44 a45 a46 a47 a48 a49 a50 a51 a52 a53 a54 a55 a56 a57 a58 a59 a60 a61 a62 a63 a64 a65 a66 a67 a68 a69 a70 a71 a72 a73 a74 a75 a76 a77 a78 a79 p3 p4 x1 x2 x3 x4 hR
  obtain ⟨S, T, fr, n, ir, ib, io, ip, il, jf, pr, pb, pp, pl, pf, hM, hf, hm, hch, hH⟩ := zz_out hR
  obtain ⟨K, hK⟩ : ∃ K, 9000000 ≤ K := ⟨9000000, Nat.le_refl _⟩
  obtain ⟨cc, cv, r, e, e1, e2, h⟩ := zp_errpos hR.2.2.2.2.1
  rcases h with ⟨rfl, rfl, rfl⟩ | ⟨rfl, rfl⟩
  · rw [g_law48, f_L_errorPosition, e1, zz_b, if_pos (show (0 : Nat) = 0 from rfl), zz_b, e2, zz_b, f_X13_thrown, zz_b, if_pos (show (0 : Int32) = 0 from rfl), if_pos (show (0 : Int32) = 0 from rfl), if_pos (zz_cmp _ _)]
    exact ⟨_, rfl, zz_R_m (by omega) hR⟩
  · rw [g_law48, f_L_errorPosition, e1, zz_b, if_neg (show ¬ ((2 : Nat) = 0) by decide), if_pos (show (2 : Nat) = 2 from rfl), zz_b, e2, zz_b, f_X13_thrown, zz_b, if_pos (show (1 : Int32) = 1 from rfl), if_neg (show ¬ ((1 : Int32) = 0) by decide)]
    exact ⟨_, rfl, zz_R_m (by omega) hR⟩
theorem st_49 : g_ok49 zz_RR := by
  intro j hj a0 a1 a2 a3 a4 a5 a6 a7 a8 a9 a10 a11 a12 a13 a14 a15 a16 a17 a18 a19 a20 a21 a22 a23 a24 a25 a26 a27 a28 a29 a30 a31 a32 a33 a34 a35 a36 a37 a38 a39 a40 a41 a42 a43 a44 a45 a46 a47 a48 a49 a50 a51 a52 a53 a54 a55 a56 a57 a58 a59 a60 a61 a62 a63 a64 a65 a66 a67 a68 a69 a70 a71 a72 a73 a74 a75 a76 a77 a78 a79 p3 p4 x1 x2 x3 x4 hR
  obtain ⟨S, T, fr, n, ir, ib, io, ip, il, jf, pr, pb, pp, pl, pf, hM, hf, hm, hch, hH⟩ := zz_out hR
  obtain ⟨K, hK⟩ : ∃ K, 9000000 ≤ K := ⟨9000000, Nat.le_refl _⟩
  obtain ⟨cc, cv, r, e, e1, e2, h⟩ := zp_failed hR.2.2.2.2.2.1
  rcases h with ⟨rfl, rfl, rfl⟩ | ⟨rfl, rfl⟩
  · rw [g_law49, f_L_failedCommand, e1, zz_b, if_pos (show (0 : Nat) = 0 from rfl), zz_b, e2, zz_b, f_X13_thrown, zz_b, if_pos (show (0 : Int32) = 0 from rfl), if_pos (show (0 : Int32) = 0 from rfl), if_pos (zz_cmp _ _)]
    exact ⟨_, rfl, zz_R_m (by omega) hR⟩
  · rw [g_law49, f_L_failedCommand, e1, zz_b, if_neg (show ¬ ((2 : Nat) = 0) by decide), if_pos (show (2 : Nat) = 2 from rfl), zz_b, e2, zz_b, f_X13_thrown, zz_b, if_pos (show (1 : Int32) = 1 from rfl), if_neg (show ¬ ((1 : Int32) = 0) by decide)]
    exact ⟨_, rfl, zz_R_m (by omega) hR⟩
theorem st_52 : g_ok52 zz_RR := by
  intro j hj a0 a1 a2 a3 a4 a5 a6 a7 a8 a9 a10 a11 a12 a13 a14 a15 a16 a17 a18 a19 a20 a21 a22 a23 a24 a25 a26 a27 a28 a29 a30 a31 a32 a33 a34 a35 a36 a37 a38 a39 a40 a41 a42 a43 a44 a45 a46 a47 a48 a49 a50 a51 a52 a53 a54 a55 a56 a57 a58 a59 a60 a61 a62 a63 a64 a65 a66 a67 a68 a69 a70 a71 a72 a73 a74 a75 a76 a77 a78 a79 p3 p4 x1 x2 x3 x4 hR
  obtain ⟨S, T, fr, n, ir, ib, io, ip, il, jf, pr, pb, pp, pl, pf, hM, hf, hm, hch, hH⟩ := zz_out hR
  obtain ⟨K, hK⟩ : ∃ K, 9000000 ≤ K := ⟨9000000, Nat.le_refl _⟩
  obtain ⟨nl, hn, hL, rfl, rfl⟩ := hR.2.2.2.1
  obtain ⟨cc, cv, r, e, e1, e2, h⟩ := zp_lineAt hn hL x1
  rcases h with ⟨rfl, rfl, rfl⟩ | ⟨rfl, rfl⟩
  · rw [g_law52, f_L_lineAt, e1, zz_b, if_pos (show (0 : Nat) = 0 from rfl), zz_b, e2, zz_b, f_X13_thrown, zz_b, if_pos (show (0 : Int32) = 0 from rfl), if_pos (show (0 : Int32) = 0 from rfl), if_pos (zz_cmp _ _)]
    exact ⟨_, rfl, zz_R_m (by omega) hR⟩
  · rw [g_law52, f_L_lineAt, e1, zz_b, if_neg (show ¬ ((1 : Nat) = 0) by decide), if_pos (show (1 : Nat) = 1 from rfl), zz_b, e2, zz_b, f_X13_thrown, zz_b, if_pos (show (1 : Int32) = 1 from rfl), if_neg (show ¬ ((1 : Int32) = 0) by decide)]
    exact ⟨_, rfl, zz_R_m (by omega) hR⟩
theorem st_5 : g_ok5 zz_RR := by
  intro j hj a0 a1 a2 a3 a4 a5 a6 a7 a8 a9 a10 a11 a12 a13 a14 a15 a16 a17 a18 a19 a20 a21 a22 a23 a24 a25 a26 a27 a28 a29 a30 a31 a32 a33 a34 a35 a36 a37 a38 a39 a40 a41 a42 a43 a44 a45 a46 a47 a48 a49 a50 a51 a52 a53 a54 a55 a56 a57 a58 a59 a60 a61 a62 a63 a64 a65 a66 a67 a68 a69 a70 a71 a72 a73 a74 a75 a76 a77 a78 a79 p3 p4 x1 x2 x3 x4 hR
  obtain ⟨S, T, fr, n, ir, ib, io, ip, il, jf, pr, pb, pp, pl, pf, hM, hf, hm, hch, hH⟩ := zz_out hR
  obtain ⟨K, hK⟩ : ∃ K, 9000000 ≤ K := ⟨9000000, Nat.le_refl _⟩
  have h1 : f_X13_tells a59 0 = some (nI (S 0), 0) := by rw [f_X13_tells, zz_l0, zz_g (show 0 < 238 by decide) (by decide), nI_clamp (by decide), hM 0 (by decide)]
  have h2 : a1 = nI (S 0) := pr.2.1
  rw [g_law5, f_X12_reedCount, zz_b, f_X13_reedCount, h1, zz_b, zz_b, if_pos h2]
  exact ⟨_, rfl, zz_R_m (by omega) hR⟩
theorem st_10 : g_ok10 zz_RR := by
  intro j hj a0 a1 a2 a3 a4 a5 a6 a7 a8 a9 a10 a11 a12 a13 a14 a15 a16 a17 a18 a19 a20 a21 a22 a23 a24 a25 a26 a27 a28 a29 a30 a31 a32 a33 a34 a35 a36 a37 a38 a39 a40 a41 a42 a43 a44 a45 a46 a47 a48 a49 a50 a51 a52 a53 a54 a55 a56 a57 a58 a59 a60 a61 a62 a63 a64 a65 a66 a67 a68 a69 a70 a71 a72 a73 a74 a75 a76 a77 a78 a79 p3 p4 x1 x2 x3 x4 hR
  obtain ⟨S, T, fr, n, ir, ib, io, ip, il, jf, pr, pb, pp, pl, pf, hM, hf, hm, hch, hH⟩ := zz_out hR
  obtain ⟨K, hK⟩ : ∃ K, 9000000 ≤ K := ⟨9000000, Nat.le_refl _⟩
  have h1 : f_X13_tells a59 1 = some (nI (S 1), 0) := by rw [f_X13_tells, zz_l1, zz_g (show 1 < 238 by decide) (by decide), nI_clamp (by decide), hM 1 (by decide)]
  have h2 : a15 = nI (S 1) := pf
  rw [g_law10, f_X12_fog, zz_b, f_X13_fog, h1, zz_b, zz_b, if_pos h2]
  exact ⟨_, rfl, zz_R_m (by omega) hR⟩
theorem st_13 : g_ok13 zz_RR := by
  intro j hj a0 a1 a2 a3 a4 a5 a6 a7 a8 a9 a10 a11 a12 a13 a14 a15 a16 a17 a18 a19 a20 a21 a22 a23 a24 a25 a26 a27 a28 a29 a30 a31 a32 a33 a34 a35 a36 a37 a38 a39 a40 a41 a42 a43 a44 a45 a46 a47 a48 a49 a50 a51 a52 a53 a54 a55 a56 a57 a58 a59 a60 a61 a62 a63 a64 a65 a66 a67 a68 a69 a70 a71 a72 a73 a74 a75 a76 a77 a78 a79 p3 p4 x1 x2 x3 x4 hR
  obtain ⟨S, T, fr, n, ir, ib, io, ip, il, jf, pr, pb, pp, pl, pf, hM, hf, hm, hch, hH⟩ := zz_out hR
  obtain ⟨K, hK⟩ : ∃ K, 9000000 ≤ K := ⟨9000000, Nat.le_refl _⟩
  have h1 : f_X13_tells a59 3 = some (nI (S 3), 0) := by rw [f_X13_tells, zz_l3, zz_g (show 3 < 238 by decide) (by decide), nI_clamp (by decide), hM 3 (by decide)]
  have h2 : a6 = nI (S 3) := pb.2.2.2.1
  rw [g_law13, f_X12_boatCount, zz_b, f_X13_boatCount, h1, zz_b, zz_b, if_pos h2]
  exact ⟨_, rfl, zz_R_m (by omega) hR⟩
theorem st_39 : g_ok39 zz_RR := by
  intro j hj a0 a1 a2 a3 a4 a5 a6 a7 a8 a9 a10 a11 a12 a13 a14 a15 a16 a17 a18 a19 a20 a21 a22 a23 a24 a25 a26 a27 a28 a29 a30 a31 a32 a33 a34 a35 a36 a37 a38 a39 a40 a41 a42 a43 a44 a45 a46 a47 a48 a49 a50 a51 a52 a53 a54 a55 a56 a57 a58 a59 a60 a61 a62 a63 a64 a65 a66 a67 a68 a69 a70 a71 a72 a73 a74 a75 a76 a77 a78 a79 p3 p4 x1 x2 x3 x4 hR
  obtain ⟨S, T, fr, n, ir, ib, io, ip, il, jf, pr, pb, pp, pl, pf, hM, hf, hm, hch, hH⟩ := zz_out hR
  obtain ⟨K, hK⟩ : ∃ K, 9000000 ≤ K := ⟨9000000, Nat.le_refl _⟩
  have h1 : f_X13_tells a59 4 = some (nI (S 4), 0) := by rw [f_X13_tells, zz_l4, zz_g (show 4 < 238 by decide) (by decide), nI_clamp (by decide), hM 4 (by decide)]
  have h2 : a14 = nI (S 4) := pl.1
  rw [g_law39, f_X12_landingCount, zz_b, f_X13_landingCount, h1, zz_b, zz_b, if_pos h2]
  exact ⟨_, rfl, zz_R_m (by omega) hR⟩
theorem st_45 : g_ok45 zz_RR := by
  intro j hj a0 a1 a2 a3 a4 a5 a6 a7 a8 a9 a10 a11 a12 a13 a14 a15 a16 a17 a18 a19 a20 a21 a22 a23 a24 a25 a26 a27 a28 a29 a30 a31 a32 a33 a34 a35 a36 a37 a38 a39 a40 a41 a42 a43 a44 a45 a46 a47 a48 a49 a50 a51 a52 a53 a54 a55 a56 a57 a58 a59 a60 a61 a62 a63 a64 a65 a66 a67 a68 a69 a70 a71 a72 a73 a74 a75 a76 a77 a78 a79 p3 p4 x1 x2 x3 x4 hR
  obtain ⟨S, T, fr, n, ir, ib, io, ip, il, jf, pr, pb, pp, pl, pf, hM, hf, hm, hch, hH⟩ := zz_out hR
  obtain ⟨K, hK⟩ : ∃ K, 9000000 ≤ K := ⟨9000000, Nat.le_refl _⟩
  have h1 : f_X13_tells a59 6 = some (nI (S 6), 0) := by rw [f_X13_tells, zz_l6, zz_g (show 6 < 238 by decide) (by decide), nI_clamp (by decide), hM 6 (by decide)]
  have h2 : a10 = nI (S 6) := pb.2.2.2.2.2.2.2
  rw [g_law45, f_X12_meetingCount, zz_b, f_X13_meetingCount, h1, zz_b, zz_b, if_pos h2]
  exact ⟨_, rfl, zz_R_m (by omega) hR⟩
theorem st_6 : g_ok6 zz_RR := by
  intro j hj a0 a1 a2 a3 a4 a5 a6 a7 a8 a9 a10 a11 a12 a13 a14 a15 a16 a17 a18 a19 a20 a21 a22 a23 a24 a25 a26 a27 a28 a29 a30 a31 a32 a33 a34 a35 a36 a37 a38 a39 a40 a41 a42 a43 a44 a45 a46 a47 a48 a49 a50 a51 a52 a53 a54 a55 a56 a57 a58 a59 a60 a61 a62 a63 a64 a65 a66 a67 a68 a69 a70 a71 a72 a73 a74 a75 a76 a77 a78 a79 p3 p4 x1 x2 x3 x4 hR
  obtain ⟨S, T, fr, n, ir, ib, io, ip, il, jf, pr, pb, pp, pl, pf, hM, hf, hm, hch, hH⟩ := zz_out hR
  obtain ⟨K, hK⟩ : ∃ K, 9000000 ≤ K := ⟨9000000, Nat.le_refl _⟩
  refine ⟨K, ?_⟩
  rw [g_law6, f_X12_brokenCount, zz_b, f_X13_brokenCount, zm_broken (K := K) hM ir.2.2 (by omega), zz_b, zz_b, if_pos pr.2.2]
  exact ⟨_, rfl, zz_R_m (by omega) hR⟩
theorem st_7 : g_ok7 zz_RR := by
  intro j hj a0 a1 a2 a3 a4 a5 a6 a7 a8 a9 a10 a11 a12 a13 a14 a15 a16 a17 a18 a19 a20 a21 a22 a23 a24 a25 a26 a27 a28 a29 a30 a31 a32 a33 a34 a35 a36 a37 a38 a39 a40 a41 a42 a43 a44 a45 a46 a47 a48 a49 a50 a51 a52 a53 a54 a55 a56 a57 a58 a59 a60 a61 a62 a63 a64 a65 a66 a67 a68 a69 a70 a71 a72 a73 a74 a75 a76 a77 a78 a79 p3 p4 x1 x2 x3 x4 hR
  obtain ⟨S, T, fr, n, ir, ib, io, ip, il, jf, pr, pb, pp, pl, pf, hM, hf, hm, hch, hH⟩ := zz_out hR
  obtain ⟨K, hK⟩ : ∃ K, 9000000 ≤ K := ⟨9000000, Nat.le_refl _⟩
  refine ⟨K, ?_⟩
  rw [g_law7, f_X12_oddReeds, zc_odd (K := K) pr.1 ir.2.2 (by omega), zz_b, zz_b, zm_odd (K := K) hM ir.2.2 (by omega), zz_b, if_pos rfl]
  exact ⟨_, rfl, zz_R_m (by omega) hR⟩
theorem st_8 : g_ok8 zz_RR := by
  intro j hj a0 a1 a2 a3 a4 a5 a6 a7 a8 a9 a10 a11 a12 a13 a14 a15 a16 a17 a18 a19 a20 a21 a22 a23 a24 a25 a26 a27 a28 a29 a30 a31 a32 a33 a34 a35 a36 a37 a38 a39 a40 a41 a42 a43 a44 a45 a46 a47 a48 a49 a50 a51 a52 a53 a54 a55 a56 a57 a58 a59 a60 a61 a62 a63 a64 a65 a66 a67 a68 a69 a70 a71 a72 a73 a74 a75 a76 a77 a78 a79 p3 p4 x1 x2 x3 x4 hR
  obtain ⟨S, T, fr, n, ir, ib, io, ip, il, jf, pr, pb, pp, pl, pf, hM, hf, hm, hch, hH⟩ := zz_out hR
  obtain ⟨K, hK⟩ : ∃ K, 9000000 ≤ K := ⟨9000000, Nat.le_refl _⟩
  refine ⟨K, ?_⟩
  rw [g_law8, f_X12_oddReedsByRows, zc_oddRows (K := K) pr.1 ir.2.2 (by omega), zz_b, zz_b, f_X13_oddReedsByRows, zm_odd (K := K) hM ir.2.2 (by omega), zz_b, zz_b, if_pos rfl]
  exact ⟨_, rfl, zz_R_m (by omega) hR⟩
theorem st_43 : g_ok43 zz_RR := by
  intro j hj a0 a1 a2 a3 a4 a5 a6 a7 a8 a9 a10 a11 a12 a13 a14 a15 a16 a17 a18 a19 a20 a21 a22 a23 a24 a25 a26 a27 a28 a29 a30 a31 a32 a33 a34 a35 a36 a37 a38 a39 a40 a41 a42 a43 a44 a45 a46 a47 a48 a49 a50 a51 a52 a53 a54 a55 a56 a57 a58 a59 a60 a61 a62 a63 a64 a65 a66 a67 a68 a69 a70 a71 a72 a73 a74 a75 a76 a77 a78 a79 p3 p4 x1 x2 x3 x4 hR
  obtain ⟨S, T, fr, n, ir, ib, io, ip, il, jf, pr, pb, pp, pl, pf, hM, hf, hm, hch, hH⟩ := zz_out hR
  obtain ⟨K, hK⟩ : ∃ K, 9000000 ≤ K := ⟨9000000, Nat.le_refl _⟩
  obtain ⟨h1, h2, h3, h4⟩ := zp_total (K := K) ib pb hM (by omega)
  refine ⟨K, ?_⟩
  rw [g_law43, h1, zz_b, h3, zz_b, if_pos rfl]
  exact ⟨_, rfl, zz_R_m (by omega) hR⟩
theorem st_44 : g_ok44 zz_RR := by
  intro j hj a0 a1 a2 a3 a4 a5 a6 a7 a8 a9 a10 a11 a12 a13 a14 a15 a16 a17 a18 a19 a20 a21 a22 a23 a24 a25 a26 a27 a28 a29 a30 a31 a32 a33 a34 a35 a36 a37 a38 a39 a40 a41 a42 a43 a44 a45 a46 a47 a48 a49 a50 a51 a52 a53 a54 a55 a56 a57 a58 a59 a60 a61 a62 a63 a64 a65 a66 a67 a68 a69 a70 a71 a72 a73 a74 a75 a76 a77 a78 a79 p3 p4 x1 x2 x3 x4 hR
  obtain ⟨S, T, fr, n, ir, ib, io, ip, il, jf, pr, pb, pp, pl, pf, hM, hf, hm, hch, hH⟩ := zz_out hR
  obtain ⟨K, hK⟩ : ∃ K, 9000000 ≤ K := ⟨9000000, Nat.le_refl _⟩
  obtain ⟨h1, h2, h3, h4⟩ := zp_total (K := K) ib pb hM (by omega)
  refine ⟨K, ?_⟩
  rw [g_law44, h2, zz_b, h4, zz_b, if_pos rfl]
  exact ⟨_, rfl, zz_R_m (by omega) hR⟩
theorem st_53 : g_ok53 zz_RR := by
  intro j hj a0 a1 a2 a3 a4 a5 a6 a7 a8 a9 a10 a11 a12 a13 a14 a15 a16 a17 a18 a19 a20 a21 a22 a23 a24 a25 a26 a27 a28 a29 a30 a31 a32 a33 a34 a35 a36 a37 a38 a39 a40 a41 a42 a43 a44 a45 a46 a47 a48 a49 a50 a51 a52 a53 a54 a55 a56 a57 a58 a59 a60 a61 a62 a63 a64 a65 a66 a67 a68 a69 a70 a71 a72 a73 a74 a75 a76 a77 a78 a79 p3 p4 x1 x2 x3 x4 hR
  obtain ⟨S, T, fr, n, ir, ib, io, ip, il, jf, pr, pb, pp, pl, pf, hM, hf, hm, hch, hH⟩ := zz_out hR
  obtain ⟨K, hK⟩ : ∃ K, 9000000 ≤ K := ⟨9000000, Nat.le_refl _⟩
  obtain ⟨cc, z, e, e1, e2, h1, h2⟩ := zp_mean (K := K) ib pb hM (by omega)
  refine ⟨K, ?_⟩
  rcases h2 with ⟨rfl, rfl⟩ | ⟨rfl, rfl⟩
  · rw [g_law53, f_L_meanFares, e1, zz_b, if_pos (show (0 : Nat) = 0 from rfl), zz_b, e2, zz_b, f_X13_thrown, zz_b, if_pos (show (0 : Int32) = 0 from rfl), if_pos (show (0 : Int32) = 0 from rfl), if_pos (show Op.cmpValue (FP.dcmp (vf_upd p4 0 z 0) z) .l = 0 from zz_np_cmp h1)]
    exact ⟨_, rfl, zz_R_m (by omega) hR⟩
  · rw [g_law53, f_L_meanFares, e1, zz_b, if_neg (show ¬ ((6 : Nat) = 0) by decide), if_pos (show (6 : Nat) = 6 from rfl), zz_b, e2, zz_b, f_X13_thrown, zz_b, if_pos (show (1 : Int32) = 1 from rfl), if_neg (show ¬ ((1 : Int32) = 0) by decide)]
    exact ⟨_, rfl, zz_R_m (by omega) hR⟩
theorem st_54 : g_ok54 zz_RR := by
  intro j hj a0 a1 a2 a3 a4 a5 a6 a7 a8 a9 a10 a11 a12 a13 a14 a15 a16 a17 a18 a19 a20 a21 a22 a23 a24 a25 a26 a27 a28 a29 a30 a31 a32 a33 a34 a35 a36 a37 a38 a39 a40 a41 a42 a43 a44 a45 a46 a47 a48 a49 a50 a51 a52 a53 a54 a55 a56 a57 a58 a59 a60 a61 a62 a63 a64 a65 a66 a67 a68 a69 a70 a71 a72 a73 a74 a75 a76 a77 a78 a79 p3 p4 x1 x2 x3 x4 hR
  obtain ⟨S, T, fr, n, ir, ib, io, ip, il, jf, pr, pb, pp, pl, pf, hM, hf, hm, hch, hH⟩ := zz_out hR
  obtain ⟨K, hK⟩ : ∃ K, 9000000 ≤ K := ⟨9000000, Nat.le_refl _⟩
  obtain ⟨h1, h2⟩ := zp_share (K := K) ir pr hM (by omega)
  have h3 : (FP.f2d (zz_shv S)) &&& 0x7fffffffffffffff ≤ 0x7ff0000000000000 ∧ Op.cmpValue (FP.dcmp (FP.f2d (zz_shv S)) (FP.f2d (zz_shv S))) .l = 0 := (zz_share (zz_oc S) zz_oc_le).2
  refine ⟨K, ?_⟩
  rw [g_law54, h1, zz_b, h2, zz_b]
  rw [zz_d h3.1, zz_d h3.1, if_pos h3.2]
  exact ⟨_, rfl, zz_R_m (by omega) hR⟩
theorem st_55 : g_ok55 zz_RR := by
  intro j hj a0 a1 a2 a3 a4 a5 a6 a7 a8 a9 a10 a11 a12 a13 a14 a15 a16 a17 a18 a19 a20 a21 a22 a23 a24 a25 a26 a27 a28 a29 a30 a31 a32 a33 a34 a35 a36 a37 a38 a39 a40 a41 a42 a43 a44 a45 a46 a47 a48 a49 a50 a51 a52 a53 a54 a55 a56 a57 a58 a59 a60 a61 a62 a63 a64 a65 a66 a67 a68 a69 a70 a71 a72 a73 a74 a75 a76 a77 a78 a79 p3 p4 x1 x2 x3 x4 hR
  obtain ⟨S, T, fr, n, ir, ib, io, ip, il, jf, pr, pb, pp, pl, pf, hM, hf, hm, hch, hH⟩ := zz_out hR
  obtain ⟨K, hK⟩ : ∃ K, 9000000 ≤ K := ⟨9000000, Nat.le_refl _⟩
  obtain ⟨a, b, c, d, e, g, h, i, z, h1⟩ := zc_consistent (M := (a0, a1, a2, a3, a4, a5, a6, a7, a8, a9, a10, a11, a12, a13, a14, a15)) (K := K) (by omega) ⟨ir, ib, io, ip, il, jf⟩ ⟨pr, pb, pp, pl, pf⟩ a35 a36 a37 a39 a40 a41 a42 a50 a38
  have h2 := zm_consistent ⟨ir, ib, io, ip, il, jf⟩ hM
  refine ⟨K, ?_⟩
  rw [g_law55, h1, zz_b, h2, zz_b, if_pos rfl]
  exact ⟨_, rfl, zz_R_m (by omega) hR⟩
end ZST
