-- the changes: one step of the run each
section ZSC
theorem st_0 : g_ok0 zz_RR := by
  intro j hj a0 a1 a2 a3 a4 a5 a6 a7 a8 a9 a10 a11 a12 a13 a14 a15 a16 a17 a18 a19 a20 a21 a22 a23 a24 a25 a26 a27 a28 a29 a30 a31 a32 a33 a34 a35 a36 a37 a38 a39 a40 a41 a42 a43 a44 a45 a46 a47 a48 a49 a50 a51 a52 a53 a54 a55 a56 a57 a58 a59 a60 a61 a62 a63 a64 a65 a66 a67 a68 a69 a70 a71 a72 a73 a74 a75 a76 a77 a78 a79 p3 p4 x1 x2 x3 x4 hR
  obtain ⟨S, T, fr, n, ir, ib, io, ip, il, jf, pr, pb, pp, pl, pf, hM, rfl, rfl, rfl, hH⟩ := zz_out hR
  obtain ⟨K, hK⟩ : ∃ K, 9000000 ≤ K := ⟨9000000, Nat.le_refl _⟩
  have hle : 60 * j ≤ 60 * (j + 1) := by omega
  have hle1 : 60 * j + 1 ≤ 60 * (j + 1) := by omega
  have hB : 60 * j ≤ 1000000 := by omega
  have hK2 : 2000 ≤ K := by omega
  obtain ⟨N, n1, n2⟩ := zc_note (M := (a0, a1, a2, a3, a4, a5, a6, a7, a8, a9, a10, a11, a12, a13, a14, a15)) hH.1 ⟨ir, ib, io, ip, il, jf⟩ ⟨pr, pb, pp, pl, pf⟩ a32
  obtain ⟨w, b1, b2⟩ := zm_begins (K := K) (before := a60) (by omega) hM
  refine ⟨K, ?_⟩
  rcases zp_grow hK2 ir ib io pr pb.2.1 hM x1 x2 with ⟨c, e, r, c1, c2, hce⟩ | ⟨a, T', st', ct', v', ha, c1, c2, tI, tO, tE, tP, tM⟩
  · rw [← pb.2.2.2.1] at c1
    rcases hce with ⟨rfl, rfl⟩ | ⟨rfl, rfl⟩
    · obtain ⟨v2, d1, d2⟩ := zm_ends_f (K := K) (v := a59) (past := a62) (by omega) b2 (t := 1) (by decide) (nI n) r
      have hQ : zz_Q (60 * (j + 1)) (a0, a1, a2, a3, a4, a5, a6, a7, a8, a9, a10, a11, a12, a13, a14, a15) (va_up a32 fr N) (nI fr) (nI n) (nI n) v2 a62 := zz_Q_f hle ⟨ir, ib, io, ip, il, jf⟩ ⟨pr, pb, pp, pl, pf⟩ hH d2 N
      rw [g_law0, f_L_addReed, f_X12_addReed, n1, zz_b, c1, zz_b, zc_set1, zz_b, if_neg (show ¬ ((1 : Nat) = 0) by decide), zz_b, if_neg (show ¬ ((1 : Nat) = 0) by decide), if_pos (show (1 : Nat) = 1 from rfl), zz_b, f_X13_addReed, b1, zz_b, c2, zz_b, d1, zz_b, zz_b, f_X13_thrown, zz_b, if_pos (show (1 : Int32) = 1 from rfl), if_neg (show ¬ ((1 : Int32) = 0) by decide)]
      exact ⟨_, rfl, hQ, zz_S_m hle hR.2.1, hR.2.2⟩
    · obtain ⟨v2, d1, d2⟩ := zm_ends_f (K := K) (v := a59) (past := a62) (by omega) b2 (t := 2) (by decide) (nI n) r
      have hQ : zz_Q (60 * (j + 1)) (a0, a1, a2, a3, a4, a5, a6, a7, a8, a9, a10, a11, a12, a13, a14, a15) (va_up a32 fr N) (nI fr) (nI n) (nI n) v2 a62 := zz_Q_f hle ⟨ir, ib, io, ip, il, jf⟩ ⟨pr, pb, pp, pl, pf⟩ hH d2 N
      rw [g_law0, f_L_addReed, f_X12_addReed, n1, zz_b, c1, zz_b, zc_set3, zz_b, if_neg (show ¬ ((3 : Nat) = 0) by decide), zz_b, if_neg (show ¬ ((3 : Nat) = 0) by decide), if_neg (show ¬ ((3 : Nat) = 1) by decide), if_pos (show (3 : Nat) = 3 from rfl), zz_b, f_X13_addReed, b1, zz_b, c2, zz_b, d1, zz_b, zz_b, f_X13_thrown, zz_b, if_pos (show (2 : Int32) = 2 from rfl), if_neg (show ¬ ((2 : Int32) = 0) by decide)]
      exact ⟨_, rfl, hQ, zz_S_m hle hR.2.1, hR.2.2⟩
  · rw [← pb.2.2.2.1] at c1
    obtain ⟨past2, Tp, d1, d2⟩ := zm_ends_y (K := K) (v := v') (sl := va_up a32 fr N) (by omega) ⟨ir, ib, io, ip, il, jf⟩ (by rw [va_up_self]; exact n2) b2 (zz_H_up hH N) (nI a)
    have hs := zc_set a ha hH.1 hH.2.1
    have hQ : zz_Q (60 * (j + 1)) (st', ct', a2, a3, a4, a5, a6, a7, a8, a9, a10, a11, a12, a13, a14, a15) (va_up a32 fr N) (nI ((fr + 1) % 9)) (nI (zz_nn1 n)) (nI (zz_nn1 n)) v' past2 := ⟨T', Tp, (fr + 1) % 9, zz_nn1 n, ⟨tI, zz_Eb_I tE.1 hle ib, tO, zz_Ep_I tE.2.1 ip, zz_El_I tE.2.2.1 il, zz_Ef_I tE.2.2.2 jf⟩, ⟨tP, zz_Eb_P tE.1 ib.2.1 pb, zz_Ep_P tE.2.1 ip pp, zz_El_P tE.2.2.1 il pl, zz_Ef_P tE.2.2.2 pf⟩, tM, rfl, rfl, rfl, zz_H_m hle d2⟩
    rw [g_law0, f_L_addReed, f_X12_addReed, n1, zz_b, c1, zz_b, hs, zz_b, if_pos (show (0 : Nat) = 0 from rfl), zz_b, if_pos (show (0 : Nat) = 0 from rfl), zz_b, f_X13_addReed, b1, zz_b, c2, zz_b, d1, zz_b, zz_b, f_X13_thrown, zz_b, if_pos (show (0 : Int32) = 0 from rfl), if_pos (show (0 : Int32) = 0 from rfl), if_pos (zz_cmp _ _)]
    exact ⟨_, rfl, hQ, zz_S_m hle hR.2.1, hR.2.2⟩
theorem st_1 : g_ok1 zz_RR := by
  intro j hj a0 a1 a2 a3 a4 a5 a6 a7 a8 a9 a10 a11 a12 a13 a14 a15 a16 a17 a18 a19 a20 a21 a22 a23 a24 a25 a26 a27 a28 a29 a30 a31 a32 a33 a34 a35 a36 a37 a38 a39 a40 a41 a42 a43 a44 a45 a46 a47 a48 a49 a50 a51 a52 a53 a54 a55 a56 a57 a58 a59 a60 a61 a62 a63 a64 a65 a66 a67 a68 a69 a70 a71 a72 a73 a74 a75 a76 a77 a78 a79 p3 p4 x1 x2 x3 x4 hR
  obtain ⟨S, T, fr, n, ir, ib, io, ip, il, jf, pr, pb, pp, pl, pf, hM, rfl, rfl, rfl, hH⟩ := zz_out hR
  obtain ⟨K, hK⟩ : ∃ K, 9000000 ≤ K := ⟨9000000, Nat.le_refl _⟩
  have hle : 60 * j ≤ 60 * (j + 1) := by omega
  have hle1 : 60 * j + 1 ≤ 60 * (j + 1) := by omega
  have hB : 60 * j ≤ 1000000 := by omega
  have hK2 : 2000 ≤ K := by omega
  obtain ⟨N, n1, n2⟩ := zc_note (M := (a0, a1, a2, a3, a4, a5, a6, a7, a8, a9, a10, a11, a12, a13, a14, a15)) hH.1 ⟨ir, ib, io, ip, il, jf⟩ ⟨pr, pb, pp, pl, pf⟩ a32
  obtain ⟨w, b1, b2⟩ := zm_begins (K := K) (before := a60) (by omega) hM
  refine ⟨K, ?_⟩
  rcases zp_snap hK2 ir ib io pr hM x1 x2 with ⟨c, e, r, c1, c2, hce⟩ | ⟨a, T', st', br', v', ha, c1, c2, tI, tO, tE, tP, tM⟩
  · skip
    rcases hce with ⟨rfl, rfl⟩ | ⟨rfl, rfl⟩ | ⟨rfl, rfl⟩
    · obtain ⟨v2, d1, d2⟩ := zm_ends_f (K := K) (v := a59) (past := a62) (by omega) b2 (t := 1) (by decide) (nI n) r
      have hQ : zz_Q (60 * (j + 1)) (a0, a1, a2, a3, a4, a5, a6, a7, a8, a9, a10, a11, a12, a13, a14, a15) (va_up a32 fr N) (nI fr) (nI n) (nI n) v2 a62 := zz_Q_f hle ⟨ir, ib, io, ip, il, jf⟩ ⟨pr, pb, pp, pl, pf⟩ hH d2 N
      rw [g_law1, f_L_breakReed, f_X12_breakReed, n1, zz_b, c1, zz_b, zc_set1, zz_b, if_neg (show ¬ ((1 : Nat) = 0) by decide), zz_b, if_neg (show ¬ ((1 : Nat) = 0) by decide), if_pos (show (1 : Nat) = 1 from rfl), zz_b, f_X13_breakReed, b1, zz_b, c2, zz_b, d1, zz_b, zz_b, f_X13_thrown, zz_b, if_pos (show (1 : Int32) = 1 from rfl), if_neg (show ¬ ((1 : Int32) = 0) by decide)]
      exact ⟨_, rfl, hQ, zz_S_m hle hR.2.1, hR.2.2⟩
    · obtain ⟨v2, d1, d2⟩ := zm_ends_f (K := K) (v := a59) (past := a62) (by omega) b2 (t := 2) (by decide) (nI n) r
      have hQ : zz_Q (60 * (j + 1)) (a0, a1, a2, a3, a4, a5, a6, a7, a8, a9, a10, a11, a12, a13, a14, a15) (va_up a32 fr N) (nI fr) (nI n) (nI n) v2 a62 := zz_Q_f hle ⟨ir, ib, io, ip, il, jf⟩ ⟨pr, pb, pp, pl, pf⟩ hH d2 N
      rw [g_law1, f_L_breakReed, f_X12_breakReed, n1, zz_b, c1, zz_b, zc_set2, zz_b, if_neg (show ¬ ((2 : Nat) = 0) by decide), zz_b, if_neg (show ¬ ((2 : Nat) = 0) by decide), if_neg (show ¬ ((2 : Nat) = 1) by decide), if_pos (show (2 : Nat) = 2 from rfl), zz_b, f_X13_breakReed, b1, zz_b, c2, zz_b, d1, zz_b, zz_b, f_X13_thrown, zz_b, if_pos (show (2 : Int32) = 2 from rfl), if_neg (show ¬ ((2 : Int32) = 0) by decide)]
      exact ⟨_, rfl, hQ, zz_S_m hle hR.2.1, hR.2.2⟩
    · obtain ⟨v2, d1, d2⟩ := zm_ends_f (K := K) (v := a59) (past := a62) (by omega) b2 (t := 3) (by decide) (nI n) r
      have hQ : zz_Q (60 * (j + 1)) (a0, a1, a2, a3, a4, a5, a6, a7, a8, a9, a10, a11, a12, a13, a14, a15) (va_up a32 fr N) (nI fr) (nI n) (nI n) v2 a62 := zz_Q_f hle ⟨ir, ib, io, ip, il, jf⟩ ⟨pr, pb, pp, pl, pf⟩ hH d2 N
      rw [g_law1, f_L_breakReed, f_X12_breakReed, n1, zz_b, c1, zz_b, zc_set3, zz_b, if_neg (show ¬ ((3 : Nat) = 0) by decide), zz_b, if_neg (show ¬ ((3 : Nat) = 0) by decide), if_neg (show ¬ ((3 : Nat) = 1) by decide), if_neg (show ¬ ((3 : Nat) = 2) by decide), if_pos (show (3 : Nat) = 3 from rfl), zz_b, f_X13_breakReed, b1, zz_b, c2, zz_b, d1, zz_b, zz_b, f_X13_thrown, zz_b, if_pos (show (3 : Int32) = 3 from rfl), if_neg (show ¬ ((3 : Int32) = 0) by decide)]
      exact ⟨_, rfl, hQ, zz_S_m hle hR.2.1, hR.2.2⟩
  · skip
    obtain ⟨past2, Tp, d1, d2⟩ := zm_ends_y (K := K) (v := v') (sl := va_up a32 fr N) (by omega) ⟨ir, ib, io, ip, il, jf⟩ (by rw [va_up_self]; exact n2) b2 (zz_H_up hH N) (nI a)
    have hs := zc_set a ha hH.1 hH.2.1
    have hQ : zz_Q (60 * (j + 1)) (st', a1, br', a3, a4, a5, a6, a7, a8, a9, a10, a11, a12, a13, a14, a15) (va_up a32 fr N) (nI ((fr + 1) % 9)) (nI (zz_nn1 n)) (nI (zz_nn1 n)) v' past2 := ⟨T', Tp, (fr + 1) % 9, zz_nn1 n, ⟨tI, zz_Eb_I tE.1 hle ib, tO, zz_Ep_I tE.2.1 ip, zz_El_I tE.2.2.1 il, zz_Ef_I tE.2.2.2 jf⟩, ⟨tP, zz_Eb_P tE.1 ib.2.1 pb, zz_Ep_P tE.2.1 ip pp, zz_El_P tE.2.2.1 il pl, zz_Ef_P tE.2.2.2 pf⟩, tM, rfl, rfl, rfl, zz_H_m hle d2⟩
    rw [g_law1, f_L_breakReed, f_X12_breakReed, n1, zz_b, c1, zz_b, hs, zz_b, if_pos (show (0 : Nat) = 0 from rfl), zz_b, if_pos (show (0 : Nat) = 0 from rfl), zz_b, f_X13_breakReed, b1, zz_b, c2, zz_b, d1, zz_b, zz_b, f_X13_thrown, zz_b, if_pos (show (0 : Int32) = 0 from rfl), if_pos (show (0 : Int32) = 0 from rfl), if_pos (zz_cmp _ _)]
    exact ⟨_, rfl, hQ, zz_S_m hle hR.2.1, hR.2.2⟩
theorem st_2 : g_ok2 zz_RR := by
  intro j hj a0 a1 a2 a3 a4 a5 a6 a7 a8 a9 a10 a11 a12 a13 a14 a15 a16 a17 a18 a19 a20 a21 a22 a23 a24 a25 a26 a27 a28 a29 a30 a31 a32 a33 a34 a35 a36 a37 a38 a39 a40 a41 a42 a43 a44 a45 a46 a47 a48 a49 a50 a51 a52 a53 a54 a55 a56 a57 a58 a59 a60 a61 a62 a63 a64 a65 a66 a67 a68 a69 a70 a71 a72 a73 a74 a75 a76 a77 a78 a79 p3 p4 x1 x2 x3 x4 hR
  obtain ⟨S, T, fr, n, ir, ib, io, ip, il, jf, pr, pb, pp, pl, pf, hM, rfl, rfl, rfl, hH⟩ := zz_out hR
  obtain ⟨K, hK⟩ : ∃ K, 9000000 ≤ K := ⟨9000000, Nat.le_refl _⟩
  have hle : 60 * j ≤ 60 * (j + 1) := by omega
  have hle1 : 60 * j + 1 ≤ 60 * (j + 1) := by omega
  have hB : 60 * j ≤ 1000000 := by omega
  have hK2 : 2000 ≤ K := by omega
  obtain ⟨N, n1, n2⟩ := zc_note (M := (a0, a1, a2, a3, a4, a5, a6, a7, a8, a9, a10, a11, a12, a13, a14, a15)) hH.1 ⟨ir, ib, io, ip, il, jf⟩ ⟨pr, pb, pp, pl, pf⟩ a32
  obtain ⟨w, b1, b2⟩ := zm_begins (K := K) (before := a60) (by omega) hM
  refine ⟨K, ?_⟩
  rcases zp_cut ir ib io pr hM x1 x2 with ⟨c, e, r, c1, c2, hce⟩ | ⟨a, T', st', ct', br', v', ha, c1, c2, tI, tO, tE, tP, tM⟩
  · skip
    rcases hce with ⟨rfl, rfl⟩ | ⟨rfl, rfl⟩
    · obtain ⟨v2, d1, d2⟩ := zm_ends_f (K := K) (v := a59) (past := a62) (by omega) b2 (t := 1) (by decide) (nI n) r
      have hQ : zz_Q (60 * (j + 1)) (a0, a1, a2, a3, a4, a5, a6, a7, a8, a9, a10, a11, a12, a13, a14, a15) (va_up a32 fr N) (nI fr) (nI n) (nI n) v2 a62 := zz_Q_f hle ⟨ir, ib, io, ip, il, jf⟩ ⟨pr, pb, pp, pl, pf⟩ hH d2 N
      rw [g_law2, f_L_removeReed, f_X12_removeReed, n1, zz_b, c1, zz_b, zc_set1, zz_b, if_neg (show ¬ ((1 : Nat) = 0) by decide), zz_b, if_neg (show ¬ ((1 : Nat) = 0) by decide), if_pos (show (1 : Nat) = 1 from rfl), zz_b, f_X13_removeReed, b1, zz_b, c2, zz_b, d1, zz_b, zz_b, f_X13_thrown, zz_b, if_pos (show (1 : Int32) = 1 from rfl), if_neg (show ¬ ((1 : Int32) = 0) by decide)]
      exact ⟨_, rfl, hQ, zz_S_m hle hR.2.1, hR.2.2⟩
    · obtain ⟨v2, d1, d2⟩ := zm_ends_f (K := K) (v := a59) (past := a62) (by omega) b2 (t := 2) (by decide) (nI n) r
      have hQ : zz_Q (60 * (j + 1)) (a0, a1, a2, a3, a4, a5, a6, a7, a8, a9, a10, a11, a12, a13, a14, a15) (va_up a32 fr N) (nI fr) (nI n) (nI n) v2 a62 := zz_Q_f hle ⟨ir, ib, io, ip, il, jf⟩ ⟨pr, pb, pp, pl, pf⟩ hH d2 N
      rw [g_law2, f_L_removeReed, f_X12_removeReed, n1, zz_b, c1, zz_b, zc_set2, zz_b, if_neg (show ¬ ((2 : Nat) = 0) by decide), zz_b, if_neg (show ¬ ((2 : Nat) = 0) by decide), if_neg (show ¬ ((2 : Nat) = 1) by decide), if_pos (show (2 : Nat) = 2 from rfl), zz_b, f_X13_removeReed, b1, zz_b, c2, zz_b, d1, zz_b, zz_b, f_X13_thrown, zz_b, if_pos (show (2 : Int32) = 2 from rfl), if_neg (show ¬ ((2 : Int32) = 0) by decide)]
      exact ⟨_, rfl, hQ, zz_S_m hle hR.2.1, hR.2.2⟩
  · skip
    obtain ⟨past2, Tp, d1, d2⟩ := zm_ends_y (K := K) (v := v') (sl := va_up a32 fr N) (by omega) ⟨ir, ib, io, ip, il, jf⟩ (by rw [va_up_self]; exact n2) b2 (zz_H_up hH N) (nI a)
    have hs := zc_set a ha hH.1 hH.2.1
    have hQ : zz_Q (60 * (j + 1)) (st', ct', br', a3, a4, a5, a6, a7, a8, a9, a10, a11, a12, a13, a14, a15) (va_up a32 fr N) (nI ((fr + 1) % 9)) (nI (zz_nn1 n)) (nI (zz_nn1 n)) v' past2 := ⟨T', Tp, (fr + 1) % 9, zz_nn1 n, ⟨tI, zz_Eb_I tE.1 hle ib, tO, zz_Ep_I tE.2.1 ip, zz_El_I tE.2.2.1 il, zz_Ef_I tE.2.2.2 jf⟩, ⟨tP, zz_Eb_P tE.1 ib.2.1 pb, zz_Ep_P tE.2.1 ip pp, zz_El_P tE.2.2.1 il pl, zz_Ef_P tE.2.2.2 pf⟩, tM, rfl, rfl, rfl, zz_H_m hle d2⟩
    rw [g_law2, f_L_removeReed, f_X12_removeReed, n1, zz_b, c1, zz_b, hs, zz_b, if_pos (show (0 : Nat) = 0 from rfl), zz_b, if_pos (show (0 : Nat) = 0 from rfl), zz_b, f_X13_removeReed, b1, zz_b, c2, zz_b, d1, zz_b, zz_b, f_X13_thrown, zz_b, if_pos (show (0 : Int32) = 0 from rfl), if_pos (show (0 : Int32) = 0 from rfl), if_pos (zz_cmp _ _)]
    exact ⟨_, rfl, hQ, zz_S_m hle hR.2.1, hR.2.2⟩
theorem st_9 : g_ok9 zz_RR := by
  intro j hj a0 a1 a2 a3 a4 a5 a6 a7 a8 a9 a10 a11 a12 a13 a14 a15 a16 a17 a18 a19 a20 a21 a22 a23 a24 a25 a26 a27 a28 a29 a30 a31 a32 a33 a34 a35 a36 a37 a38 a39 a40 a41 a42 a43 a44 a45 a46 a47 a48 a49 a50 a51 a52 a53 a54 a55 a56 a57 a58 a59 a60 a61 a62 a63 a64 a65 a66 a67 a68 a69 a70 a71 a72 a73 a74 a75 a76 a77 a78 a79 p3 p4 x1 x2 x3 x4 hR
  obtain ⟨S, T, fr, n, ir, ib, io, ip, il, jf, pr, pb, pp, pl, pf, hM, rfl, rfl, rfl, hH⟩ := zz_out hR
  obtain ⟨K, hK⟩ : ∃ K, 9000000 ≤ K := ⟨9000000, Nat.le_refl _⟩
  have hle : 60 * j ≤ 60 * (j + 1) := by omega
  have hle1 : 60 * j + 1 ≤ 60 * (j + 1) := by omega
  have hB : 60 * j ≤ 1000000 := by omega
  have hK2 : 2000 ≤ K := by omega
  obtain ⟨N, n1, n2⟩ := zc_note (M := (a0, a1, a2, a3, a4, a5, a6, a7, a8, a9, a10, a11, a12, a13, a14, a15)) hH.1 ⟨ir, ib, io, ip, il, jf⟩ ⟨pr, pb, pp, pl, pf⟩ a32
  obtain ⟨w, b1, b2⟩ := zm_begins (K := K) (before := a60) (by omega) hM
  refine ⟨K, ?_⟩
  rcases zp_fog jf pf hM x1 with ⟨c, e, r, c1, c2, hce⟩ | ⟨a, T', fg', v', ha, c1, c2, tI, tE, tP, tM⟩
  · skip
    rcases hce with ⟨rfl, rfl⟩
    · obtain ⟨v2, d1, d2⟩ := zm_ends_f (K := K) (v := a59) (past := a62) (by omega) b2 (t := 1) (by decide) (nI n) r
      have hQ : zz_Q (60 * (j + 1)) (a0, a1, a2, a3, a4, a5, a6, a7, a8, a9, a10, a11, a12, a13, a14, a15) (va_up a32 fr N) (nI fr) (nI n) (nI n) v2 a62 := zz_Q_f hle ⟨ir, ib, io, ip, il, jf⟩ ⟨pr, pb, pp, pl, pf⟩ hH d2 N
      rw [g_law9, f_L_setFog, f_X12_setFog, n1, zz_b, c1, zz_b, zc_set4, zz_b, if_neg (show ¬ ((4 : Nat) = 0) by decide), zz_b, if_neg (show ¬ ((4 : Nat) = 0) by decide), if_pos (show (4 : Nat) = 4 from rfl), zz_b, f_X13_setFog, b1, zz_b, c2, zz_b, d1, zz_b, zz_b, f_X13_thrown, zz_b, if_pos (show (1 : Int32) = 1 from rfl), if_neg (show ¬ ((1 : Int32) = 0) by decide)]
      exact ⟨_, rfl, hQ, zz_S_m hle hR.2.1, hR.2.2⟩
  · skip
    obtain ⟨past2, Tp, d1, d2⟩ := zm_ends_y (K := K) (v := v') (sl := va_up a32 fr N) (by omega) ⟨ir, ib, io, ip, il, jf⟩ (by rw [va_up_self]; exact n2) b2 (zz_H_up hH N) (nI a)
    have hs := zc_set a ha hH.1 hH.2.1
    have hQ : zz_Q (60 * (j + 1)) (a0, a1, a2, a3, a4, a5, a6, a7, a8, a9, a10, a11, a12, a13, a14, fg') (va_up a32 fr N) (nI ((fr + 1) % 9)) (nI (zz_nn1 n)) (nI (zz_nn1 n)) v' past2 := ⟨T', Tp, (fr + 1) % 9, zz_nn1 n, ⟨zz_Er_I tE.1 ir, zz_Eb_I tE.2.1 hle ib, zz_Io_E tE.1 tE.2.1 ib io, zz_Ep_I tE.2.2.1 ip, zz_El_I tE.2.2.2 il, tI⟩, ⟨zz_Er_P tE.1 pr, zz_Eb_P tE.2.1 ib.2.1 pb, zz_Ep_P tE.2.2.1 ip pp, zz_El_P tE.2.2.2 il pl, tP⟩, tM, rfl, rfl, rfl, zz_H_m hle d2⟩
    rw [g_law9, f_L_setFog, f_X12_setFog, n1, zz_b, c1, zz_b, hs, zz_b, if_pos (show (0 : Nat) = 0 from rfl), zz_b, if_pos (show (0 : Nat) = 0 from rfl), zz_b, f_X13_setFog, b1, zz_b, c2, zz_b, d1, zz_b, zz_b, f_X13_thrown, zz_b, if_pos (show (0 : Int32) = 0 from rfl), if_pos (show (0 : Int32) = 0 from rfl), if_pos (zz_cmp _ _)]
    exact ⟨_, rfl, hQ, zz_S_m hle hR.2.1, hR.2.2⟩
theorem st_11 : g_ok11 zz_RR := by
  intro j hj a0 a1 a2 a3 a4 a5 a6 a7 a8 a9 a10 a11 a12 a13 a14 a15 a16 a17 a18 a19 a20 a21 a22 a23 a24 a25 a26 a27 a28 a29 a30 a31 a32 a33 a34 a35 a36 a37 a38 a39 a40 a41 a42 a43 a44 a45 a46 a47 a48 a49 a50 a51 a52 a53 a54 a55 a56 a57 a58 a59 a60 a61 a62 a63 a64 a65 a66 a67 a68 a69 a70 a71 a72 a73 a74 a75 a76 a77 a78 a79 p3 p4 x1 x2 x3 x4 hR
  obtain ⟨S, T, fr, n, ir, ib, io, ip, il, jf, pr, pb, pp, pl, pf, hM, rfl, rfl, rfl, hH⟩ := zz_out hR
  obtain ⟨K, hK⟩ : ∃ K, 9000000 ≤ K := ⟨9000000, Nat.le_refl _⟩
  have hle : 60 * j ≤ 60 * (j + 1) := by omega
  have hle1 : 60 * j + 1 ≤ 60 * (j + 1) := by omega
  have hB : 60 * j ≤ 1000000 := by omega
  have hK2 : 2000 ≤ K := by omega
  obtain ⟨N, n1, n2⟩ := zc_note (M := (a0, a1, a2, a3, a4, a5, a6, a7, a8, a9, a10, a11, a12, a13, a14, a15)) hH.1 ⟨ir, ib, io, ip, il, jf⟩ ⟨pr, pb, pp, pl, pf⟩ a32
  obtain ⟨w, b1, b2⟩ := zm_begins (K := K) (before := a60) (by omega) hM
  refine ⟨K, ?_⟩
  rcases zp_launch hK2 hB pr.1 ir ib io pb hM x1 x2 with ⟨c, e, r, c1, c2, hce⟩ | ⟨a, T', nu', ce', fa', fc', nx', v', ha, c1, c2, tI, tO, tE, tP, tM⟩
  · skip
    rcases hce with ⟨rfl, rfl⟩ | ⟨rfl, rfl⟩ | ⟨rfl, rfl⟩
    · obtain ⟨v2, d1, d2⟩ := zm_ends_f (K := K) (v := a59) (past := a62) (by omega) b2 (t := 1) (by decide) (nI n) r
      have hQ : zz_Q (60 * (j + 1)) (a0, a1, a2, a3, a4, a5, a6, a7, a8, a9, a10, a11, a12, a13, a14, a15) (va_up a32 fr N) (nI fr) (nI n) (nI n) v2 a62 := zz_Q_f hle ⟨ir, ib, io, ip, il, jf⟩ ⟨pr, pb, pp, pl, pf⟩ hH d2 N
      rw [g_law11, f_L_addBoat, f_X12_addBoat, n1, zz_b, c1, zz_b, zc_set1, zz_b, if_neg (show ¬ ((1 : Nat) = 0) by decide), zz_b, if_neg (show ¬ ((1 : Nat) = 0) by decide), if_pos (show (1 : Nat) = 1 from rfl), zz_b, f_X13_addBoat, b1, zz_b, c2, zz_b, d1, zz_b, zz_b, f_X13_thrown, zz_b, if_pos (show (1 : Int32) = 1 from rfl), if_neg (show ¬ ((1 : Int32) = 0) by decide)]
      exact ⟨_, rfl, hQ, zz_S_m hle hR.2.1, hR.2.2⟩
    · obtain ⟨v2, d1, d2⟩ := zm_ends_f (K := K) (v := a59) (past := a62) (by omega) b2 (t := 2) (by decide) (nI n) r
      have hQ : zz_Q (60 * (j + 1)) (a0, a1, a2, a3, a4, a5, a6, a7, a8, a9, a10, a11, a12, a13, a14, a15) (va_up a32 fr N) (nI fr) (nI n) (nI n) v2 a62 := zz_Q_f hle ⟨ir, ib, io, ip, il, jf⟩ ⟨pr, pb, pp, pl, pf⟩ hH d2 N
      rw [g_law11, f_L_addBoat, f_X12_addBoat, n1, zz_b, c1, zz_b, zc_set3, zz_b, if_neg (show ¬ ((3 : Nat) = 0) by decide), zz_b, if_neg (show ¬ ((3 : Nat) = 0) by decide), if_neg (show ¬ ((3 : Nat) = 1) by decide), if_pos (show (3 : Nat) = 3 from rfl), zz_b, f_X13_addBoat, b1, zz_b, c2, zz_b, d1, zz_b, zz_b, f_X13_thrown, zz_b, if_pos (show (2 : Int32) = 2 from rfl), if_neg (show ¬ ((2 : Int32) = 0) by decide)]
      exact ⟨_, rfl, hQ, zz_S_m hle hR.2.1, hR.2.2⟩
    · obtain ⟨v2, d1, d2⟩ := zm_ends_f (K := K) (v := a59) (past := a62) (by omega) b2 (t := 3) (by decide) (nI n) r
      have hQ : zz_Q (60 * (j + 1)) (a0, a1, a2, a3, a4, a5, a6, a7, a8, a9, a10, a11, a12, a13, a14, a15) (va_up a32 fr N) (nI fr) (nI n) (nI n) v2 a62 := zz_Q_f hle ⟨ir, ib, io, ip, il, jf⟩ ⟨pr, pb, pp, pl, pf⟩ hH d2 N
      rw [g_law11, f_L_addBoat, f_X12_addBoat, n1, zz_b, c1, zz_b, zc_set5, zz_b, if_neg (show ¬ ((5 : Nat) = 0) by decide), zz_b, if_neg (show ¬ ((5 : Nat) = 0) by decide), if_neg (show ¬ ((5 : Nat) = 1) by decide), if_neg (show ¬ ((5 : Nat) = 3) by decide), if_pos (show (5 : Nat) = 5 from rfl), zz_b, f_X13_addBoat, b1, zz_b, c2, zz_b, d1, zz_b, zz_b, f_X13_thrown, zz_b, if_pos (show (3 : Int32) = 3 from rfl), if_neg (show ¬ ((3 : Int32) = 0) by decide)]
      exact ⟨_, rfl, hQ, zz_S_m hle hR.2.1, hR.2.2⟩
  · skip
    obtain ⟨past2, Tp, d1, d2⟩ := zm_ends_y (K := K) (v := v') (sl := va_up a32 fr N) (by omega) ⟨ir, ib, io, ip, il, jf⟩ (by rw [va_up_self]; exact n2) b2 (zz_H_up hH N) (nI a)
    have hs := zc_set a ha hH.1 hH.2.1
    have hQ : zz_Q (60 * (j + 1)) (a0, a1, a2, nu', ce', fa', fc', nx', a8, a9, a10, a11, a12, a13, a14, a15) (va_up a32 fr N) (nI ((fr + 1) % 9)) (nI (zz_nn1 n)) (nI (zz_nn1 n)) v' past2 := ⟨T', Tp, (fr + 1) % 9, zz_nn1 n, ⟨zz_Er_I tE.1 ir, zz_Ib_m hle1 tI, tO, zz_Ep_I tE.2.1 ip, zz_El_I tE.2.2.1 il, zz_Ef_I tE.2.2.2 jf⟩, ⟨zz_Er_P tE.1 pr, tP, zz_Ep_P tE.2.1 ip pp, zz_El_P tE.2.2.1 il pl, zz_Ef_P tE.2.2.2 pf⟩, tM, rfl, rfl, rfl, zz_H_m hle d2⟩
    rw [g_law11, f_L_addBoat, f_X12_addBoat, n1, zz_b, c1, zz_b, hs, zz_b, if_pos (show (0 : Nat) = 0 from rfl), zz_b, if_pos (show (0 : Nat) = 0 from rfl), zz_b, f_X13_addBoat, b1, zz_b, c2, zz_b, d1, zz_b, zz_b, f_X13_thrown, zz_b, if_pos (show (0 : Int32) = 0 from rfl), if_pos (show (0 : Int32) = 0 from rfl), if_pos (zz_cmp _ _)]
    exact ⟨_, rfl, hQ, zz_S_m hle hR.2.1, hR.2.2⟩
theorem st_12 : g_ok12 zz_RR := by
  intro j hj a0 a1 a2 a3 a4 a5 a6 a7 a8 a9 a10 a11 a12 a13 a14 a15 a16 a17 a18 a19 a20 a21 a22 a23 a24 a25 a26 a27 a28 a29 a30 a31 a32 a33 a34 a35 a36 a37 a38 a39 a40 a41 a42 a43 a44 a45 a46 a47 a48 a49 a50 a51 a52 a53 a54 a55 a56 a57 a58 a59 a60 a61 a62 a63 a64 a65 a66 a67 a68 a69 a70 a71 a72 a73 a74 a75 a76 a77 a78 a79 p3 p4 x1 x2 x3 x4 hR
  obtain ⟨S, T, fr, n, ir, ib, io, ip, il, jf, pr, pb, pp, pl, pf, hM, rfl, rfl, rfl, hH⟩ := zz_out hR
  obtain ⟨K, hK⟩ : ∃ K, 9000000 ≤ K := ⟨9000000, Nat.le_refl _⟩
  have hle : 60 * j ≤ 60 * (j + 1) := by omega
  have hle1 : 60 * j + 1 ≤ 60 * (j + 1) := by omega
  have hB : 60 * j ≤ 1000000 := by omega
  have hK2 : 2000 ≤ K := by omega
  obtain ⟨N, n1, n2⟩ := zc_note (M := (a0, a1, a2, a3, a4, a5, a6, a7, a8, a9, a10, a11, a12, a13, a14, a15)) hH.1 ⟨ir, ib, io, ip, il, jf⟩ ⟨pr, pb, pp, pl, pf⟩ a32
  obtain ⟨w, b1, b2⟩ := zm_begins (K := K) (before := a60) (by omega) hM
  refine ⟨K, ?_⟩
  rcases zp_dismiss hK2 hB ib io pb hM x1 with ⟨c, e, r, q, c1, cq, c2, hce⟩ | ⟨a, T', nu', ce', fa', fc', re', v', q, ha, c1, cq, c2, tI, tO, tE, tP, tM⟩
  · skip
    rcases hce with ⟨rfl, rfl⟩
    · obtain ⟨v2, d1, d2⟩ := zm_ends_f (K := K) (v := a59) (past := a62) (by omega) b2 (t := 1) (by decide) (nI n) r
      have hQ : zz_Q (60 * (j + 1)) (a0, a1, a2, a3, a4, a5, a6, a7, a8, a9, a10, a11, a12, a13, a14, a15) (va_up a32 fr N) (nI fr) (nI n) (nI n) v2 a62 := zz_Q_f hle ⟨ir, ib, io, ip, il, jf⟩ ⟨pr, pb, pp, pl, pf⟩ hH d2 N
      rw [g_law12, f_L_removeBoat, f_X12_removeBoat, n1, zz_b, c1, zz_b, zc_set2, zz_b, if_neg (show ¬ ((2 : Nat) = 0) by decide), zz_b, if_neg (show ¬ ((2 : Nat) = 0) by decide), if_pos (show (2 : Nat) = 2 from rfl), zz_b, f_X13_removeBoat, b1, zz_b, cq, zz_b, c2, zz_b, d1, zz_b, zz_b, f_X13_thrown, zz_b, if_pos (show (1 : Int32) = 1 from rfl), if_neg (show ¬ ((1 : Int32) = 0) by decide)]
      exact ⟨_, rfl, hQ, zz_S_m hle hR.2.1, hR.2.2⟩
  · skip
    obtain ⟨past2, Tp, d1, d2⟩ := zm_ends_y (K := K) (v := v') (sl := va_up a32 fr N) (by omega) ⟨ir, ib, io, ip, il, jf⟩ (by rw [va_up_self]; exact n2) b2 (zz_H_up hH N) (nI a)
    have hs := zc_set a ha hH.1 hH.2.1
    have hQ : zz_Q (60 * (j + 1)) (a0, a1, a2, nu', ce', fa', fc', a7, a8, re', a10, a11, a12, a13, a14, a15) (va_up a32 fr N) (nI ((fr + 1) % 9)) (nI (zz_nn1 n)) (nI (zz_nn1 n)) v' past2 := ⟨T', Tp, (fr + 1) % 9, zz_nn1 n, ⟨zz_Er_I tE.1 ir, zz_Ib_m hle1 tI, tO, zz_Ep_I tE.2.1 ip, zz_El_I tE.2.2.1 il, zz_Ef_I tE.2.2.2 jf⟩, ⟨zz_Er_P tE.1 pr, tP, zz_Ep_P tE.2.1 ip pp, zz_El_P tE.2.2.1 il pl, zz_Ef_P tE.2.2.2 pf⟩, tM, rfl, rfl, rfl, zz_H_m hle d2⟩
    rw [g_law12, f_L_removeBoat, f_X12_removeBoat, n1, zz_b, c1, zz_b, hs, zz_b, if_pos (show (0 : Nat) = 0 from rfl), zz_b, if_pos (show (0 : Nat) = 0 from rfl), zz_b, f_X13_removeBoat, b1, zz_b, cq, zz_b, c2, zz_b, d1, zz_b, zz_b, f_X13_thrown, zz_b, if_pos (show (0 : Int32) = 0 from rfl), if_pos (show (0 : Int32) = 0 from rfl), if_pos (zz_cmp _ _)]
    exact ⟨_, rfl, hQ, zz_S_m hle hR.2.1, hR.2.2⟩
theorem st_20 : g_ok20 zz_RR := by
  intro j hj a0 a1 a2 a3 a4 a5 a6 a7 a8 a9 a10 a11 a12 a13 a14 a15 a16 a17 a18 a19 a20 a21 a22 a23 a24 a25 a26 a27 a28 a29 a30 a31 a32 a33 a34 a35 a36 a37 a38 a39 a40 a41 a42 a43 a44 a45 a46 a47 a48 a49 a50 a51 a52 a53 a54 a55 a56 a57 a58 a59 a60 a61 a62 a63 a64 a65 a66 a67 a68 a69 a70 a71 a72 a73 a74 a75 a76 a77 a78 a79 p3 p4 x1 x2 x3 x4 hR
  obtain ⟨S, T, fr, n, ir, ib, io, ip, il, jf, pr, pb, pp, pl, pf, hM, rfl, rfl, rfl, hH⟩ := zz_out hR
  obtain ⟨K, hK⟩ : ∃ K, 9000000 ≤ K := ⟨9000000, Nat.le_refl _⟩
  have hle : 60 * j ≤ 60 * (j + 1) := by omega
  have hle1 : 60 * j + 1 ≤ 60 * (j + 1) := by omega
  have hB : 60 * j ≤ 1000000 := by omega
  have hK2 : 2000 ≤ K := by omega
  obtain ⟨N, n1, n2⟩ := zc_note (M := (a0, a1, a2, a3, a4, a5, a6, a7, a8, a9, a10, a11, a12, a13, a14, a15)) hH.1 ⟨ir, ib, io, ip, il, jf⟩ ⟨pr, pb, pp, pl, pf⟩ a32
  obtain ⟨w, b1, b2⟩ := zm_begins (K := K) (before := a60) (by omega) hM
  refine ⟨K, ?_⟩
  rcases zp_extend hK2 ip pp hM x1 (x2.toUInt32 % 65536).toInt32 with ⟨c, e, r, c1, c2, hce⟩ | ⟨a, T', mo', le', v', ha, c1, c2, tI, tE, tP, tM⟩
  · skip
    rcases hce with ⟨rfl, rfl⟩ | ⟨rfl, rfl⟩ | ⟨rfl, rfl⟩
    · obtain ⟨v2, d1, d2⟩ := zm_ends_f (K := K) (v := a59) (past := a62) (by omega) b2 (t := 1) (by decide) (nI n) r
      have hQ : zz_Q (60 * (j + 1)) (a0, a1, a2, a3, a4, a5, a6, a7, a8, a9, a10, a11, a12, a13, a14, a15) (va_up a32 fr N) (nI fr) (nI n) (nI n) v2 a62 := zz_Q_f hle ⟨ir, ib, io, ip, il, jf⟩ ⟨pr, pb, pp, pl, pf⟩ hH d2 N
      rw [g_law20, f_L_addMove, f_X12_addMove, n1, zz_b, c1, zz_b, zc_set1, zz_b, if_neg (show ¬ ((1 : Nat) = 0) by decide), zz_b, if_neg (show ¬ ((1 : Nat) = 0) by decide), if_pos (show (1 : Nat) = 1 from rfl), zz_b, f_X13_addMove, b1, zz_b, zm_move, zz_b, c2, zz_b, d1, zz_b, zz_b, f_X13_thrown, zz_b, if_pos (show (1 : Int32) = 1 from rfl), if_neg (show ¬ ((1 : Int32) = 0) by decide)]
      exact ⟨_, rfl, hQ, zz_S_m hle hR.2.1, hR.2.2⟩
    · obtain ⟨v2, d1, d2⟩ := zm_ends_f (K := K) (v := a59) (past := a62) (by omega) b2 (t := 2) (by decide) (nI n) r
      have hQ : zz_Q (60 * (j + 1)) (a0, a1, a2, a3, a4, a5, a6, a7, a8, a9, a10, a11, a12, a13, a14, a15) (va_up a32 fr N) (nI fr) (nI n) (nI n) v2 a62 := zz_Q_f hle ⟨ir, ib, io, ip, il, jf⟩ ⟨pr, pb, pp, pl, pf⟩ hH d2 N
      rw [g_law20, f_L_addMove, f_X12_addMove, n1, zz_b, c1, zz_b, zc_set4, zz_b, if_neg (show ¬ ((4 : Nat) = 0) by decide), zz_b, if_neg (show ¬ ((4 : Nat) = 0) by decide), if_neg (show ¬ ((4 : Nat) = 1) by decide), if_pos (show (4 : Nat) = 4 from rfl), zz_b, f_X13_addMove, b1, zz_b, zm_move, zz_b, c2, zz_b, d1, zz_b, zz_b, f_X13_thrown, zz_b, if_pos (show (2 : Int32) = 2 from rfl), if_neg (show ¬ ((2 : Int32) = 0) by decide)]
      exact ⟨_, rfl, hQ, zz_S_m hle hR.2.1, hR.2.2⟩
    · obtain ⟨v2, d1, d2⟩ := zm_ends_f (K := K) (v := a59) (past := a62) (by omega) b2 (t := 3) (by decide) (nI n) r
      have hQ : zz_Q (60 * (j + 1)) (a0, a1, a2, a3, a4, a5, a6, a7, a8, a9, a10, a11, a12, a13, a14, a15) (va_up a32 fr N) (nI fr) (nI n) (nI n) v2 a62 := zz_Q_f hle ⟨ir, ib, io, ip, il, jf⟩ ⟨pr, pb, pp, pl, pf⟩ hH d2 N
      rw [g_law20, f_L_addMove, f_X12_addMove, n1, zz_b, c1, zz_b, zc_set3, zz_b, if_neg (show ¬ ((3 : Nat) = 0) by decide), zz_b, if_neg (show ¬ ((3 : Nat) = 0) by decide), if_neg (show ¬ ((3 : Nat) = 1) by decide), if_neg (show ¬ ((3 : Nat) = 4) by decide), if_pos (show (3 : Nat) = 3 from rfl), zz_b, f_X13_addMove, b1, zz_b, zm_move, zz_b, c2, zz_b, d1, zz_b, zz_b, f_X13_thrown, zz_b, if_pos (show (3 : Int32) = 3 from rfl), if_neg (show ¬ ((3 : Int32) = 0) by decide)]
      exact ⟨_, rfl, hQ, zz_S_m hle hR.2.1, hR.2.2⟩
  · skip
    obtain ⟨past2, Tp, d1, d2⟩ := zm_ends_y (K := K) (v := v') (sl := va_up a32 fr N) (by omega) ⟨ir, ib, io, ip, il, jf⟩ (by rw [va_up_self]; exact n2) b2 (zz_H_up hH N) (nI a)
    have hs := zc_set a ha hH.1 hH.2.1
    have hQ : zz_Q (60 * (j + 1)) (a0, a1, a2, a3, a4, a5, a6, a7, a8, a9, a10, mo', le', a13, a14, a15) (va_up a32 fr N) (nI ((fr + 1) % 9)) (nI (zz_nn1 n)) (nI (zz_nn1 n)) v' past2 := ⟨T', Tp, (fr + 1) % 9, zz_nn1 n, ⟨zz_Er_I tE.1 ir, zz_Eb_I tE.2.1 hle ib, zz_Io_E tE.1 tE.2.1 ib io, tI, zz_El_I tE.2.2.1 il, zz_Ef_I tE.2.2.2 jf⟩, ⟨zz_Er_P tE.1 pr, zz_Eb_P tE.2.1 ib.2.1 pb, tP, zz_El_P tE.2.2.1 il pl, zz_Ef_P tE.2.2.2 pf⟩, tM, rfl, rfl, rfl, zz_H_m hle d2⟩
    rw [g_law20, f_L_addMove, f_X12_addMove, n1, zz_b, c1, zz_b, hs, zz_b, if_pos (show (0 : Nat) = 0 from rfl), zz_b, if_pos (show (0 : Nat) = 0 from rfl), zz_b, f_X13_addMove, b1, zz_b, zm_move, zz_b, c2, zz_b, d1, zz_b, zz_b, f_X13_thrown, zz_b, if_pos (show (0 : Int32) = 0 from rfl), if_pos (show (0 : Int32) = 0 from rfl), if_pos (zz_cmp _ _)]
    exact ⟨_, rfl, hQ, zz_S_m hle hR.2.1, hR.2.2⟩
theorem st_21 : g_ok21 zz_RR := by
  intro j hj a0 a1 a2 a3 a4 a5 a6 a7 a8 a9 a10 a11 a12 a13 a14 a15 a16 a17 a18 a19 a20 a21 a22 a23 a24 a25 a26 a27 a28 a29 a30 a31 a32 a33 a34 a35 a36 a37 a38 a39 a40 a41 a42 a43 a44 a45 a46 a47 a48 a49 a50 a51 a52 a53 a54 a55 a56 a57 a58 a59 a60 a61 a62 a63 a64 a65 a66 a67 a68 a69 a70 a71 a72 a73 a74 a75 a76 a77 a78 a79 p3 p4 x1 x2 x3 x4 hR
  obtain ⟨S, T, fr, n, ir, ib, io, ip, il, jf, pr, pb, pp, pl, pf, hM, rfl, rfl, rfl, hH⟩ := zz_out hR
  obtain ⟨K, hK⟩ : ∃ K, 9000000 ≤ K := ⟨9000000, Nat.le_refl _⟩
  have hle : 60 * j ≤ 60 * (j + 1) := by omega
  have hle1 : 60 * j + 1 ≤ 60 * (j + 1) := by omega
  have hB : 60 * j ≤ 1000000 := by omega
  have hK2 : 2000 ≤ K := by omega
  obtain ⟨N, n1, n2⟩ := zc_note (M := (a0, a1, a2, a3, a4, a5, a6, a7, a8, a9, a10, a11, a12, a13, a14, a15)) hH.1 ⟨ir, ib, io, ip, il, jf⟩ ⟨pr, pb, pp, pl, pf⟩ a32
  obtain ⟨w, b1, b2⟩ := zm_begins (K := K) (before := a60) (by omega) hM
  refine ⟨K, ?_⟩
  rcases zp_empty hK2 ip pp hM x1 with ⟨c, e, r, c1, c2, hce⟩ | ⟨a, p, v', hp, hx, ha, c1, c2, tI, tE, tP, tM⟩
  · skip
    rcases hce with ⟨rfl, rfl⟩
    · obtain ⟨v2, d1, d2⟩ := zm_ends_f (K := K) (v := a59) (past := a62) (by omega) b2 (t := 1) (by decide) (nI n) r
      have hQ : zz_Q (60 * (j + 1)) (a0, a1, a2, a3, a4, a5, a6, a7, a8, a9, a10, a11, a12, a13, a14, a15) (va_up a32 fr N) (nI fr) (nI n) (nI n) v2 a62 := zz_Q_f hle ⟨ir, ib, io, ip, il, jf⟩ ⟨pr, pb, pp, pl, pf⟩ hH d2 N
      rw [g_law21, f_L_clearPlan, f_X12_clearPlan, n1, zz_b, c1, zz_b, zc_set1, zz_b, if_neg (show ¬ ((1 : Nat) = 0) by decide), zz_b, if_neg (show ¬ ((1 : Nat) = 0) by decide), if_pos (show (1 : Nat) = 1 from rfl), zz_b, f_X13_clearPlan, b1, zz_b, c2, zz_b, d1, zz_b, zz_b, f_X13_thrown, zz_b, if_pos (show (1 : Int32) = 1 from rfl), if_neg (show ¬ ((1 : Int32) = 0) by decide)]
      exact ⟨_, rfl, hQ, zz_S_m hle hR.2.1, hR.2.2⟩
  · skip
    obtain ⟨past2, Tp, d1, d2⟩ := zm_ends_y (K := K) (v := v') (sl := va_up a32 fr N) (by omega) ⟨ir, ib, io, ip, il, jf⟩ (by rw [va_up_self]; exact n2) b2 (zz_H_up hH N) (nI a)
    have hs := zc_set a ha hH.1 hH.2.1
    have hQ : zz_Q (60 * (j + 1)) (a0, a1, a2, a3, a4, a5, a6, a7, a8, a9, a10, a11, (upd a12 p (nI 0)), a13, a14, a15) (va_up a32 fr N) (nI ((fr + 1) % 9)) (nI (zz_nn1 n)) (nI (zz_nn1 n)) v' past2 := ⟨zz_bT S p 0 S, Tp, (fr + 1) % 9, zz_nn1 n, ⟨zz_Er_I tE.1 ir, zz_Eb_I tE.2.1 hle ib, zz_Io_E tE.1 tE.2.1 ib io, tI, zz_El_I tE.2.2.1 il, zz_Ef_I tE.2.2.2 jf⟩, ⟨zz_Er_P tE.1 pr, zz_Eb_P tE.2.1 ib.2.1 pb, tP, zz_El_P tE.2.2.1 il pl, zz_Ef_P tE.2.2.2 pf⟩, tM, rfl, rfl, rfl, zz_H_m hle d2⟩
    rw [g_law21, f_L_clearPlan, f_X12_clearPlan, n1, zz_b, c1, zz_b, hs, zz_b, if_pos (show (0 : Nat) = 0 from rfl), zz_b, if_pos (show (0 : Nat) = 0 from rfl), zz_b, f_X13_clearPlan, b1, zz_b, c2, zz_b, d1, zz_b, zz_b, f_X13_thrown, zz_b, if_pos (show (0 : Int32) = 0 from rfl), if_pos (show (0 : Int32) = 0 from rfl), if_pos (zz_cmp _ _)]
    exact ⟨_, rfl, hQ, zz_S_m hle hR.2.1, hR.2.2⟩
theorem st_22 : g_ok22 zz_RR := by
  intro j hj a0 a1 a2 a3 a4 a5 a6 a7 a8 a9 a10 a11 a12 a13 a14 a15 a16 a17 a18 a19 a20 a21 a22 a23 a24 a25 a26 a27 a28 a29 a30 a31 a32 a33 a34 a35 a36 a37 a38 a39 a40 a41 a42 a43 a44 a45 a46 a47 a48 a49 a50 a51 a52 a53 a54 a55 a56 a57 a58 a59 a60 a61 a62 a63 a64 a65 a66 a67 a68 a69 a70 a71 a72 a73 a74 a75 a76 a77 a78 a79 p3 p4 x1 x2 x3 x4 hR
  obtain ⟨S, T, fr, n, ir, ib, io, ip, il, jf, pr, pb, pp, pl, pf, hM, rfl, rfl, rfl, hH⟩ := zz_out hR
  obtain ⟨K, hK⟩ : ∃ K, 9000000 ≤ K := ⟨9000000, Nat.le_refl _⟩
  have hle : 60 * j ≤ 60 * (j + 1) := by omega
  have hle1 : 60 * j + 1 ≤ 60 * (j + 1) := by omega
  have hB : 60 * j ≤ 1000000 := by omega
  have hK2 : 2000 ≤ K := by omega
  obtain ⟨N, n1, n2⟩ := zc_note (M := (a0, a1, a2, a3, a4, a5, a6, a7, a8, a9, a10, a11, a12, a13, a14, a15)) hH.1 ⟨ir, ib, io, ip, il, jf⟩ ⟨pr, pb, pp, pl, pf⟩ a32
  obtain ⟨w, b1, b2⟩ := zm_begins (K := K) (before := a60) (by omega) hM
  refine ⟨K, ?_⟩
  rcases zp_mirror (scratch := a64) hK2 ip pp hM x1 x2 with ⟨c, e, r, c1, c2, hce⟩ | ⟨a, T', mo', le', v', sc', ha, c1, c2, tI, tE, tP, tM⟩
  · skip
    rcases hce with ⟨rfl, rfl⟩
    · obtain ⟨v2, d1, d2⟩ := zm_ends_f (K := K) (v := a59) (past := a62) (by omega) b2 (t := 1) (by decide) (nI n) r
      have hQ : zz_Q (60 * (j + 1)) (a0, a1, a2, a3, a4, a5, a6, a7, a8, a9, a10, a11, a12, a13, a14, a15) (va_up a32 fr N) (nI fr) (nI n) (nI n) v2 a62 := zz_Q_f hle ⟨ir, ib, io, ip, il, jf⟩ ⟨pr, pb, pp, pl, pf⟩ hH d2 N
      rw [g_law22, f_L_mirror, f_X12_mirror, n1, zz_b, c1, zz_b, zc_set1, zz_b, if_neg (show ¬ ((1 : Nat) = 0) by decide), zz_b, if_neg (show ¬ ((1 : Nat) = 0) by decide), if_pos (show (1 : Nat) = 1 from rfl), zz_b, f_X13_mirror, b1, zz_b, c2, zz_b, d1, zz_b, zz_b, f_X13_thrown, zz_b, if_pos (show (1 : Int32) = 1 from rfl), if_neg (show ¬ ((1 : Int32) = 0) by decide)]
      exact ⟨_, rfl, hQ, zz_S_m hle hR.2.1, hR.2.2⟩
  · skip
    obtain ⟨past2, Tp, d1, d2⟩ := zm_ends_y (K := K) (v := v') (sl := va_up a32 fr N) (by omega) ⟨ir, ib, io, ip, il, jf⟩ (by rw [va_up_self]; exact n2) b2 (zz_H_up hH N) (nI a)
    have hs := zc_set a ha hH.1 hH.2.1
    have hQ : zz_Q (60 * (j + 1)) (a0, a1, a2, a3, a4, a5, a6, a7, a8, a9, a10, mo', le', a13, a14, a15) (va_up a32 fr N) (nI ((fr + 1) % 9)) (nI (zz_nn1 n)) (nI (zz_nn1 n)) v' past2 := ⟨T', Tp, (fr + 1) % 9, zz_nn1 n, ⟨zz_Er_I tE.1 ir, zz_Eb_I tE.2.1 hle ib, zz_Io_E tE.1 tE.2.1 ib io, tI, zz_El_I tE.2.2.1 il, zz_Ef_I tE.2.2.2 jf⟩, ⟨zz_Er_P tE.1 pr, zz_Eb_P tE.2.1 ib.2.1 pb, tP, zz_El_P tE.2.2.1 il pl, zz_Ef_P tE.2.2.2 pf⟩, tM, rfl, rfl, rfl, zz_H_m hle d2⟩
    rw [g_law22, f_L_mirror, f_X12_mirror, n1, zz_b, c1, zz_b, hs, zz_b, if_pos (show (0 : Nat) = 0 from rfl), zz_b, if_pos (show (0 : Nat) = 0 from rfl), zz_b, f_X13_mirror, b1, zz_b, c2, zz_b, d1, zz_b, zz_b, f_X13_thrown, zz_b, if_pos (show (0 : Int32) = 0 from rfl), if_pos (show (0 : Int32) = 0 from rfl), if_pos (zz_cmp _ _)]
    exact ⟨_, rfl, hQ, zz_S_m hle hR.2.1, hR.2.2⟩
theorem st_23 : g_ok23 zz_RR := by
  intro j hj a0 a1 a2 a3 a4 a5 a6 a7 a8 a9 a10 a11 a12 a13 a14 a15 a16 a17 a18 a19 a20 a21 a22 a23 a24 a25 a26 a27 a28 a29 a30 a31 a32 a33 a34 a35 a36 a37 a38 a39 a40 a41 a42 a43 a44 a45 a46 a47 a48 a49 a50 a51 a52 a53 a54 a55 a56 a57 a58 a59 a60 a61 a62 a63 a64 a65 a66 a67 a68 a69 a70 a71 a72 a73 a74 a75 a76 a77 a78 a79 p3 p4 x1 x2 x3 x4 hR
  obtain ⟨S, T, fr, n, ir, ib, io, ip, il, jf, pr, pb, pp, pl, pf, hM, rfl, rfl, rfl, hH⟩ := zz_out hR
  obtain ⟨K, hK⟩ : ∃ K, 9000000 ≤ K := ⟨9000000, Nat.le_refl _⟩
  have hle : 60 * j ≤ 60 * (j + 1) := by omega
  have hle1 : 60 * j + 1 ≤ 60 * (j + 1) := by omega
  have hB : 60 * j ≤ 1000000 := by omega
  have hK2 : 2000 ≤ K := by omega
  obtain ⟨N, n1, n2⟩ := zc_note (M := (a0, a1, a2, a3, a4, a5, a6, a7, a8, a9, a10, a11, a12, a13, a14, a15)) hH.1 ⟨ir, ib, io, ip, il, jf⟩ ⟨pr, pb, pp, pl, pf⟩ a32
  obtain ⟨w, b1, b2⟩ := zm_begins (K := K) (before := a60) (by omega) hM
  refine ⟨K, ?_⟩
  rcases zp_back (scratch := a64) hK2 ip pp hM x1 x2 with ⟨c, e, r, c1, c2, hce⟩ | ⟨a, T', mo', le', v', sc', ha, c1, c2, tI, tE, tP, tM⟩
  · skip
    rcases hce with ⟨rfl, rfl⟩
    · obtain ⟨v2, d1, d2⟩ := zm_ends_f (K := K) (v := a59) (past := a62) (by omega) b2 (t := 1) (by decide) (nI n) r
      have hQ : zz_Q (60 * (j + 1)) (a0, a1, a2, a3, a4, a5, a6, a7, a8, a9, a10, a11, a12, a13, a14, a15) (va_up a32 fr N) (nI fr) (nI n) (nI n) v2 a62 := zz_Q_f hle ⟨ir, ib, io, ip, il, jf⟩ ⟨pr, pb, pp, pl, pf⟩ hH d2 N
      rw [g_law23, f_L_reverse, f_X12_reverse, n1, zz_b, c1, zz_b, zc_set1, zz_b, if_neg (show ¬ ((1 : Nat) = 0) by decide), zz_b, if_neg (show ¬ ((1 : Nat) = 0) by decide), if_pos (show (1 : Nat) = 1 from rfl), zz_b, f_X13_reverse, b1, zz_b, c2, zz_b, d1, zz_b, zz_b, f_X13_thrown, zz_b, if_pos (show (1 : Int32) = 1 from rfl), if_neg (show ¬ ((1 : Int32) = 0) by decide)]
      exact ⟨_, rfl, hQ, zz_S_m hle hR.2.1, hR.2.2⟩
  · skip
    obtain ⟨past2, Tp, d1, d2⟩ := zm_ends_y (K := K) (v := v') (sl := va_up a32 fr N) (by omega) ⟨ir, ib, io, ip, il, jf⟩ (by rw [va_up_self]; exact n2) b2 (zz_H_up hH N) (nI a)
    have hs := zc_set a ha hH.1 hH.2.1
    have hQ : zz_Q (60 * (j + 1)) (a0, a1, a2, a3, a4, a5, a6, a7, a8, a9, a10, mo', le', a13, a14, a15) (va_up a32 fr N) (nI ((fr + 1) % 9)) (nI (zz_nn1 n)) (nI (zz_nn1 n)) v' past2 := ⟨T', Tp, (fr + 1) % 9, zz_nn1 n, ⟨zz_Er_I tE.1 ir, zz_Eb_I tE.2.1 hle ib, zz_Io_E tE.1 tE.2.1 ib io, tI, zz_El_I tE.2.2.1 il, zz_Ef_I tE.2.2.2 jf⟩, ⟨zz_Er_P tE.1 pr, zz_Eb_P tE.2.1 ib.2.1 pb, tP, zz_El_P tE.2.2.1 il pl, zz_Ef_P tE.2.2.2 pf⟩, tM, rfl, rfl, rfl, zz_H_m hle d2⟩
    rw [g_law23, f_L_reverse, f_X12_reverse, n1, zz_b, c1, zz_b, hs, zz_b, if_pos (show (0 : Nat) = 0 from rfl), zz_b, if_pos (show (0 : Nat) = 0 from rfl), zz_b, f_X13_reverse, b1, zz_b, c2, zz_b, d1, zz_b, zz_b, f_X13_thrown, zz_b, if_pos (show (0 : Int32) = 0 from rfl), if_pos (show (0 : Int32) = 0 from rfl), if_pos (zz_cmp _ _)]
    exact ⟨_, rfl, hQ, zz_S_m hle hR.2.1, hR.2.2⟩
theorem st_24 : g_ok24 zz_RR := by
  intro j hj a0 a1 a2 a3 a4 a5 a6 a7 a8 a9 a10 a11 a12 a13 a14 a15 a16 a17 a18 a19 a20 a21 a22 a23 a24 a25 a26 a27 a28 a29 a30 a31 a32 a33 a34 a35 a36 a37 a38 a39 a40 a41 a42 a43 a44 a45 a46 a47 a48 a49 a50 a51 a52 a53 a54 a55 a56 a57 a58 a59 a60 a61 a62 a63 a64 a65 a66 a67 a68 a69 a70 a71 a72 a73 a74 a75 a76 a77 a78 a79 p3 p4 x1 x2 x3 x4 hR
  obtain ⟨S, T, fr, n, ir, ib, io, ip, il, jf, pr, pb, pp, pl, pf, hM, rfl, rfl, rfl, hH⟩ := zz_out hR
  obtain ⟨K, hK⟩ : ∃ K, 9000000 ≤ K := ⟨9000000, Nat.le_refl _⟩
  have hle : 60 * j ≤ 60 * (j + 1) := by omega
  have hle1 : 60 * j + 1 ≤ 60 * (j + 1) := by omega
  have hB : 60 * j ≤ 1000000 := by omega
  have hK2 : 2000 ≤ K := by omega
  obtain ⟨N, n1, n2⟩ := zc_note (M := (a0, a1, a2, a3, a4, a5, a6, a7, a8, a9, a10, a11, a12, a13, a14, a15)) hH.1 ⟨ir, ib, io, ip, il, jf⟩ ⟨pr, pb, pp, pl, pf⟩ a32
  obtain ⟨w, b1, b2⟩ := zm_begins (K := K) (before := a60) (by omega) hM
  refine ⟨K, ?_⟩
  rcases zp_reduce (scratch := a64) hK2 ip pp hM x1 with ⟨c, e, r, c1, c2, hce⟩ | ⟨a, T', mo', le', v', sc', ha, c1, c2, tI, tE, tP, tM⟩
  · skip
    rcases hce with ⟨rfl, rfl⟩
    · obtain ⟨v2, d1, d2⟩ := zm_ends_f (K := K) (v := a59) (past := a62) (by omega) b2 (t := 1) (by decide) (nI n) r
      have hQ : zz_Q (60 * (j + 1)) (a0, a1, a2, a3, a4, a5, a6, a7, a8, a9, a10, a11, a12, a13, a14, a15) (va_up a32 fr N) (nI fr) (nI n) (nI n) v2 a62 := zz_Q_f hle ⟨ir, ib, io, ip, il, jf⟩ ⟨pr, pb, pp, pl, pf⟩ hH d2 N
      rw [g_law24, f_L_reduce, f_X12_reduce, n1, zz_b, c1, zz_b, zc_set1, zz_b, if_neg (show ¬ ((1 : Nat) = 0) by decide), zz_b, if_neg (show ¬ ((1 : Nat) = 0) by decide), if_pos (show (1 : Nat) = 1 from rfl), zz_b, f_X13_reduce, b1, zz_b, c2, zz_b, d1, zz_b, zz_b, f_X13_thrown, zz_b, if_pos (show (1 : Int32) = 1 from rfl), if_neg (show ¬ ((1 : Int32) = 0) by decide)]
      exact ⟨_, rfl, hQ, zz_S_m hle hR.2.1, hR.2.2⟩
  · skip
    obtain ⟨past2, Tp, d1, d2⟩ := zm_ends_y (K := K) (v := v') (sl := va_up a32 fr N) (by omega) ⟨ir, ib, io, ip, il, jf⟩ (by rw [va_up_self]; exact n2) b2 (zz_H_up hH N) (nI a)
    have hs := zc_set a ha hH.1 hH.2.1
    have hQ : zz_Q (60 * (j + 1)) (a0, a1, a2, a3, a4, a5, a6, a7, a8, a9, a10, mo', le', a13, a14, a15) (va_up a32 fr N) (nI ((fr + 1) % 9)) (nI (zz_nn1 n)) (nI (zz_nn1 n)) v' past2 := ⟨T', Tp, (fr + 1) % 9, zz_nn1 n, ⟨zz_Er_I tE.1 ir, zz_Eb_I tE.2.1 hle ib, zz_Io_E tE.1 tE.2.1 ib io, tI, zz_El_I tE.2.2.1 il, zz_Ef_I tE.2.2.2 jf⟩, ⟨zz_Er_P tE.1 pr, zz_Eb_P tE.2.1 ib.2.1 pb, tP, zz_El_P tE.2.2.1 il pl, zz_Ef_P tE.2.2.2 pf⟩, tM, rfl, rfl, rfl, zz_H_m hle d2⟩
    rw [g_law24, f_L_reduce, f_X12_reduce, n1, zz_b, c1, zz_b, hs, zz_b, if_pos (show (0 : Nat) = 0 from rfl), zz_b, if_pos (show (0 : Nat) = 0 from rfl), zz_b, f_X13_reduce, b1, zz_b, c2, zz_b, d1, zz_b, zz_b, f_X13_thrown, zz_b, if_pos (show (0 : Int32) = 0 from rfl), if_pos (show (0 : Int32) = 0 from rfl), if_pos (zz_cmp _ _)]
    exact ⟨_, rfl, hQ, zz_S_m hle hR.2.1, hR.2.2⟩
theorem st_29 : g_ok29 zz_RR := by
  intro j hj a0 a1 a2 a3 a4 a5 a6 a7 a8 a9 a10 a11 a12 a13 a14 a15 a16 a17 a18 a19 a20 a21 a22 a23 a24 a25 a26 a27 a28 a29 a30 a31 a32 a33 a34 a35 a36 a37 a38 a39 a40 a41 a42 a43 a44 a45 a46 a47 a48 a49 a50 a51 a52 a53 a54 a55 a56 a57 a58 a59 a60 a61 a62 a63 a64 a65 a66 a67 a68 a69 a70 a71 a72 a73 a74 a75 a76 a77 a78 a79 p3 p4 x1 x2 x3 x4 hR
  obtain ⟨S, T, fr, n, ir, ib, io, ip, il, jf, pr, pb, pp, pl, pf, hM, rfl, rfl, rfl, hH⟩ := zz_out hR
  obtain ⟨K, hK⟩ : ∃ K, 9000000 ≤ K := ⟨9000000, Nat.le_refl _⟩
  have hle : 60 * j ≤ 60 * (j + 1) := by omega
  have hle1 : 60 * j + 1 ≤ 60 * (j + 1) := by omega
  have hB : 60 * j ≤ 1000000 := by omega
  have hK2 : 2000 ≤ K := by omega
  obtain ⟨N, n1, n2⟩ := zc_note (M := (a0, a1, a2, a3, a4, a5, a6, a7, a8, a9, a10, a11, a12, a13, a14, a15)) hH.1 ⟨ir, ib, io, ip, il, jf⟩ ⟨pr, pb, pp, pl, pf⟩ a32
  obtain ⟨w, b1, b2⟩ := zm_begins (K := K) (before := a60) (by omega) hM
  refine ⟨K, ?_⟩
  rcases zp_sail hK2 hB pr.1 ir ib io ip pb pp hM a66 a67 a68 x1 x2 with ⟨c, e, r, q, tx', ty', tm', c1, cq, c2, hce⟩ | ⟨a, T', ce', fa', to', me', v', q, tx', ty', tm', ha, c1, cq, c2, tI, tO, tE, tP, tM⟩
  · skip
    rcases hce with ⟨rfl, rfl⟩ | ⟨rfl, rfl⟩ | ⟨rfl, rfl⟩
    · obtain ⟨v2, d1, d2⟩ := zm_ends_f (K := K) (v := a59) (past := a62) (by omega) b2 (t := 1) (by decide) (nI n) r
      have hQ : zz_Q (60 * (j + 1)) (a0, a1, a2, a3, a4, a5, a6, a7, a8, a9, a10, a11, a12, a13, a14, a15) (va_up a32 fr N) (nI fr) (nI n) (nI n) v2 a62 := zz_Q_f hle ⟨ir, ib, io, ip, il, jf⟩ ⟨pr, pb, pp, pl, pf⟩ hH d2 N
      rw [g_law29, f_L_sail, f_X12_sail, n1, zz_b, c1, zz_b, zc_set2, zz_b, if_neg (show ¬ ((2 : Nat) = 0) by decide), zz_b, if_neg (show ¬ ((2 : Nat) = 0) by decide), if_pos (show (2 : Nat) = 2 from rfl), zz_b, f_X13_sail, b1, zz_b, cq, zz_b, c2, zz_b, d1, zz_b, zz_b, f_X13_thrown, zz_b, if_pos (show (1 : Int32) = 1 from rfl), if_neg (show ¬ ((1 : Int32) = 0) by decide)]
      exact ⟨_, rfl, hQ, zz_S_m hle hR.2.1, hR.2.2⟩
    · obtain ⟨v2, d1, d2⟩ := zm_ends_f (K := K) (v := a59) (past := a62) (by omega) b2 (t := 2) (by decide) (nI n) r
      have hQ : zz_Q (60 * (j + 1)) (a0, a1, a2, a3, a4, a5, a6, a7, a8, a9, a10, a11, a12, a13, a14, a15) (va_up a32 fr N) (nI fr) (nI n) (nI n) v2 a62 := zz_Q_f hle ⟨ir, ib, io, ip, il, jf⟩ ⟨pr, pb, pp, pl, pf⟩ hH d2 N
      rw [g_law29, f_L_sail, f_X12_sail, n1, zz_b, c1, zz_b, zc_set1, zz_b, if_neg (show ¬ ((1 : Nat) = 0) by decide), zz_b, if_neg (show ¬ ((1 : Nat) = 0) by decide), if_neg (show ¬ ((1 : Nat) = 2) by decide), if_pos (show (1 : Nat) = 1 from rfl), zz_b, f_X13_sail, b1, zz_b, cq, zz_b, c2, zz_b, d1, zz_b, zz_b, f_X13_thrown, zz_b, if_pos (show (2 : Int32) = 2 from rfl), if_neg (show ¬ ((2 : Int32) = 0) by decide)]
      exact ⟨_, rfl, hQ, zz_S_m hle hR.2.1, hR.2.2⟩
    · obtain ⟨v2, d1, d2⟩ := zm_ends_f (K := K) (v := a59) (past := a62) (by omega) b2 (t := 3) (by decide) (nI n) r
      have hQ : zz_Q (60 * (j + 1)) (a0, a1, a2, a3, a4, a5, a6, a7, a8, a9, a10, a11, a12, a13, a14, a15) (va_up a32 fr N) (nI fr) (nI n) (nI n) v2 a62 := zz_Q_f hle ⟨ir, ib, io, ip, il, jf⟩ ⟨pr, pb, pp, pl, pf⟩ hH d2 N
      rw [g_law29, f_L_sail, f_X12_sail, n1, zz_b, c1, zz_b, zc_set5, zz_b, if_neg (show ¬ ((5 : Nat) = 0) by decide), zz_b, if_neg (show ¬ ((5 : Nat) = 0) by decide), if_neg (show ¬ ((5 : Nat) = 2) by decide), if_neg (show ¬ ((5 : Nat) = 1) by decide), if_pos (show (5 : Nat) = 5 from rfl), zz_b, f_X13_sail, b1, zz_b, cq, zz_b, c2, zz_b, d1, zz_b, zz_b, f_X13_thrown, zz_b, if_pos (show (3 : Int32) = 3 from rfl), if_neg (show ¬ ((3 : Int32) = 0) by decide)]
      exact ⟨_, rfl, hQ, zz_S_m hle hR.2.1, hR.2.2⟩
  · skip
    obtain ⟨past2, Tp, d1, d2⟩ := zm_ends_y (K := K) (v := v') (sl := va_up a32 fr N) (by omega) ⟨ir, ib, io, ip, il, jf⟩ (by rw [va_up_self]; exact n2) b2 (zz_H_up hH N) (nI a)
    have hs := zc_set a ha hH.1 hH.2.1
    have hQ : zz_Q (60 * (j + 1)) (a0, a1, a2, a3, ce', fa', a6, a7, to', a9, me', a11, a12, a13, a14, a15) (va_up a32 fr N) (nI ((fr + 1) % 9)) (nI (zz_nn1 n)) (nI (zz_nn1 n)) v' past2 := ⟨T', Tp, (fr + 1) % 9, zz_nn1 n, ⟨zz_Er_I tE.1 ir, zz_Ib_m hle1 tI, tO, zz_Ep_I tE.2.1 ip, zz_El_I tE.2.2.1 il, zz_Ef_I tE.2.2.2 jf⟩, ⟨zz_Er_P tE.1 pr, tP, zz_Ep_P tE.2.1 ip pp, zz_El_P tE.2.2.1 il pl, zz_Ef_P tE.2.2.2 pf⟩, tM, rfl, rfl, rfl, zz_H_m hle d2⟩
    rw [g_law29, f_L_sail, f_X12_sail, n1, zz_b, c1, zz_b, hs, zz_b, if_pos (show (0 : Nat) = 0 from rfl), zz_b, if_pos (show (0 : Nat) = 0 from rfl), zz_b, f_X13_sail, b1, zz_b, cq, zz_b, c2, zz_b, d1, zz_b, zz_b, f_X13_thrown, zz_b, if_pos (show (0 : Int32) = 0 from rfl), if_pos (show (0 : Int32) = 0 from rfl), if_pos (zz_cmp _ _)]
    exact ⟨_, rfl, hQ, zz_S_m hle hR.2.1, hR.2.2⟩
theorem st_36 : g_ok36 zz_RR := by
  intro j hj a0 a1 a2 a3 a4 a5 a6 a7 a8 a9 a10 a11 a12 a13 a14 a15 a16 a17 a18 a19 a20 a21 a22 a23 a24 a25 a26 a27 a28 a29 a30 a31 a32 a33 a34 a35 a36 a37 a38 a39 a40 a41 a42 a43 a44 a45 a46 a47 a48 a49 a50 a51 a52 a53 a54 a55 a56 a57 a58 a59 a60 a61 a62 a63 a64 a65 a66 a67 a68 a69 a70 a71 a72 a73 a74 a75 a76 a77 a78 a79 p3 p4 x1 x2 x3 x4 hR
  obtain ⟨S, T, fr, n, ir, ib, io, ip, il, jf, pr, pb, pp, pl, pf, hM, rfl, rfl, rfl, hH⟩ := zz_out hR
  obtain ⟨K, hK⟩ : ∃ K, 9000000 ≤ K := ⟨9000000, Nat.le_refl _⟩
  have hle : 60 * j ≤ 60 * (j + 1) := by omega
  have hle1 : 60 * j + 1 ≤ 60 * (j + 1) := by omega
  have hB : 60 * j ≤ 1000000 := by omega
  have hK2 : 2000 ≤ K := by omega
  obtain ⟨N, n1, n2⟩ := zc_note (M := (a0, a1, a2, a3, a4, a5, a6, a7, a8, a9, a10, a11, a12, a13, a14, a15)) hH.1 ⟨ir, ib, io, ip, il, jf⟩ ⟨pr, pb, pp, pl, pf⟩ a32
  obtain ⟨w, b1, b2⟩ := zm_begins (K := K) (before := a60) (by omega) hM
  refine ⟨K, ?_⟩
  rcases zp_lay hK pr.1 ir ib io ip pb pp hM a35 a36 a39 a63 a64 a66 a67 x1 x2 x3 x4 with ⟨c, e, r, t, u, f, q, far', sc', tx', ty', c1, cq, c2, hce⟩ | ⟨a, T', mo', le', t, u, f, v', q, far', sc', tx', ty', ha, c1, cq, c2, tI, tE, tP, tM⟩
  · skip
    rcases hce with ⟨rfl, rfl⟩ | ⟨rfl, rfl⟩ | ⟨rfl, rfl⟩
    · obtain ⟨v2, d1, d2⟩ := zm_ends_f (K := K) (v := a59) (past := a62) (by omega) b2 (t := 1) (by decide) (nI n) r
      have hQ : zz_Q (60 * (j + 1)) (a0, a1, a2, a3, a4, a5, a6, a7, a8, a9, a10, a11, a12, a13, a14, a15) (va_up a32 fr N) (nI fr) (nI n) (nI n) v2 a62 := zz_Q_f hle ⟨ir, ib, io, ip, il, jf⟩ ⟨pr, pb, pp, pl, pf⟩ hH d2 N
      rw [g_law36, f_L_planWay, f_X12_planWay, n1, zz_b, c1, zz_b, zc_set2, zz_b, if_neg (show ¬ ((2 : Nat) = 0) by decide), zz_b, if_neg (show ¬ ((2 : Nat) = 0) by decide), if_pos (show (2 : Nat) = 2 from rfl), zz_b, f_X13_planWay, b1, zz_b, cq, zz_b, c2, zz_b, d1, zz_b, zz_b, f_X13_thrown, zz_b, if_pos (show (1 : Int32) = 1 from rfl), if_neg (show ¬ ((1 : Int32) = 0) by decide)]
      exact ⟨_, rfl, hQ, zz_S_m hle hR.2.1, hR.2.2⟩
    · obtain ⟨v2, d1, d2⟩ := zm_ends_f (K := K) (v := a59) (past := a62) (by omega) b2 (t := 2) (by decide) (nI n) r
      have hQ : zz_Q (60 * (j + 1)) (a0, a1, a2, a3, a4, a5, a6, a7, a8, a9, a10, a11, a12, a13, a14, a15) (va_up a32 fr N) (nI fr) (nI n) (nI n) v2 a62 := zz_Q_f hle ⟨ir, ib, io, ip, il, jf⟩ ⟨pr, pb, pp, pl, pf⟩ hH d2 N
      rw [g_law36, f_L_planWay, f_X12_planWay, n1, zz_b, c1, zz_b, zc_set1, zz_b, if_neg (show ¬ ((1 : Nat) = 0) by decide), zz_b, if_neg (show ¬ ((1 : Nat) = 0) by decide), if_neg (show ¬ ((1 : Nat) = 2) by decide), if_pos (show (1 : Nat) = 1 from rfl), zz_b, f_X13_planWay, b1, zz_b, cq, zz_b, c2, zz_b, d1, zz_b, zz_b, f_X13_thrown, zz_b, if_pos (show (2 : Int32) = 2 from rfl), if_neg (show ¬ ((2 : Int32) = 0) by decide)]
      exact ⟨_, rfl, hQ, zz_S_m hle hR.2.1, hR.2.2⟩
    · obtain ⟨v2, d1, d2⟩ := zm_ends_f (K := K) (v := a59) (past := a62) (by omega) b2 (t := 3) (by decide) (nI n) r
      have hQ : zz_Q (60 * (j + 1)) (a0, a1, a2, a3, a4, a5, a6, a7, a8, a9, a10, a11, a12, a13, a14, a15) (va_up a32 fr N) (nI fr) (nI n) (nI n) v2 a62 := zz_Q_f hle ⟨ir, ib, io, ip, il, jf⟩ ⟨pr, pb, pp, pl, pf⟩ hH d2 N
      rw [g_law36, f_L_planWay, f_X12_planWay, n1, zz_b, c1, zz_b, zc_set3, zz_b, if_neg (show ¬ ((3 : Nat) = 0) by decide), zz_b, if_neg (show ¬ ((3 : Nat) = 0) by decide), if_neg (show ¬ ((3 : Nat) = 2) by decide), if_neg (show ¬ ((3 : Nat) = 1) by decide), if_pos (show (3 : Nat) = 3 from rfl), zz_b, f_X13_planWay, b1, zz_b, cq, zz_b, c2, zz_b, d1, zz_b, zz_b, f_X13_thrown, zz_b, if_pos (show (3 : Int32) = 3 from rfl), if_neg (show ¬ ((3 : Int32) = 0) by decide)]
      exact ⟨_, rfl, hQ, zz_S_m hle hR.2.1, hR.2.2⟩
  · skip
    obtain ⟨past2, Tp, d1, d2⟩ := zm_ends_y (K := K) (v := v') (sl := va_up a32 fr N) (by omega) ⟨ir, ib, io, ip, il, jf⟩ (by rw [va_up_self]; exact n2) b2 (zz_H_up hH N) (nI a)
    have hs := zc_set a ha hH.1 hH.2.1
    have hQ : zz_Q (60 * (j + 1)) (a0, a1, a2, a3, a4, a5, a6, a7, a8, a9, a10, mo', le', a13, a14, a15) (va_up a32 fr N) (nI ((fr + 1) % 9)) (nI (zz_nn1 n)) (nI (zz_nn1 n)) v' past2 := ⟨T', Tp, (fr + 1) % 9, zz_nn1 n, ⟨zz_Er_I tE.1 ir, zz_Eb_I tE.2.1 hle ib, zz_Io_E tE.1 tE.2.1 ib io, tI, zz_El_I tE.2.2.1 il, zz_Ef_I tE.2.2.2 jf⟩, ⟨zz_Er_P tE.1 pr, zz_Eb_P tE.2.1 ib.2.1 pb, tP, zz_El_P tE.2.2.1 il pl, zz_Ef_P tE.2.2.2 pf⟩, tM, rfl, rfl, rfl, zz_H_m hle d2⟩
    rw [g_law36, f_L_planWay, f_X12_planWay, n1, zz_b, c1, zz_b, hs, zz_b, if_pos (show (0 : Nat) = 0 from rfl), zz_b, if_pos (show (0 : Nat) = 0 from rfl), zz_b, f_X13_planWay, b1, zz_b, cq, zz_b, c2, zz_b, d1, zz_b, zz_b, f_X13_thrown, zz_b, if_pos (show (0 : Int32) = 0 from rfl), if_pos (show (0 : Int32) = 0 from rfl), if_pos (zz_cmp _ _)]
    exact ⟨_, rfl, hQ, zz_S_m hle hR.2.1, hR.2.2⟩
theorem st_37 : g_ok37 zz_RR := by
  intro j hj a0 a1 a2 a3 a4 a5 a6 a7 a8 a9 a10 a11 a12 a13 a14 a15 a16 a17 a18 a19 a20 a21 a22 a23 a24 a25 a26 a27 a28 a29 a30 a31 a32 a33 a34 a35 a36 a37 a38 a39 a40 a41 a42 a43 a44 a45 a46 a47 a48 a49 a50 a51 a52 a53 a54 a55 a56 a57 a58 a59 a60 a61 a62 a63 a64 a65 a66 a67 a68 a69 a70 a71 a72 a73 a74 a75 a76 a77 a78 a79 p3 p4 x1 x2 x3 x4 hR
  obtain ⟨S, T, fr, n, ir, ib, io, ip, il, jf, pr, pb, pp, pl, pf, hM, rfl, rfl, rfl, hH⟩ := zz_out hR
  obtain ⟨K, hK⟩ : ∃ K, 9000000 ≤ K := ⟨9000000, Nat.le_refl _⟩
  have hle : 60 * j ≤ 60 * (j + 1) := by omega
  have hle1 : 60 * j + 1 ≤ 60 * (j + 1) := by omega
  have hB : 60 * j ≤ 1000000 := by omega
  have hK2 : 2000 ≤ K := by omega
  obtain ⟨N, n1, n2⟩ := zc_note (M := (a0, a1, a2, a3, a4, a5, a6, a7, a8, a9, a10, a11, a12, a13, a14, a15)) hH.1 ⟨ir, ib, io, ip, il, jf⟩ ⟨pr, pb, pp, pl, pf⟩ a32
  obtain ⟨w, b1, b2⟩ := zm_begins (K := K) (before := a60) (by omega) hM
  refine ⟨K, ?_⟩
  rcases zp_land hK2 il pl hM x1 x2 with ⟨c, e, r, c1, c2, hce⟩ | ⟨a, T', lc', ln', v', ha, c1, c2, tI, tE, tP, tM⟩
  · skip
    rcases hce with ⟨rfl, rfl⟩ | ⟨rfl, rfl⟩
    · obtain ⟨v2, d1, d2⟩ := zm_ends_f (K := K) (v := a59) (past := a62) (by omega) b2 (t := 1) (by decide) (nI n) r
      have hQ : zz_Q (60 * (j + 1)) (a0, a1, a2, a3, a4, a5, a6, a7, a8, a9, a10, a11, a12, a13, a14, a15) (va_up a32 fr N) (nI fr) (nI n) (nI n) v2 a62 := zz_Q_f hle ⟨ir, ib, io, ip, il, jf⟩ ⟨pr, pb, pp, pl, pf⟩ hH d2 N
      rw [g_law37, f_L_addLanding, f_X12_addLanding, n1, zz_b, c1, zz_b, zc_set1, zz_b, if_neg (show ¬ ((1 : Nat) = 0) by decide), zz_b, if_neg (show ¬ ((1 : Nat) = 0) by decide), if_pos (show (1 : Nat) = 1 from rfl), zz_b, f_X13_addLanding, b1, zz_b, c2, zz_b, d1, zz_b, zz_b, f_X13_thrown, zz_b, if_pos (show (1 : Int32) = 1 from rfl), if_neg (show ¬ ((1 : Int32) = 0) by decide)]
      exact ⟨_, rfl, hQ, zz_S_m hle hR.2.1, hR.2.2⟩
    · obtain ⟨v2, d1, d2⟩ := zm_ends_f (K := K) (v := a59) (past := a62) (by omega) b2 (t := 2) (by decide) (nI n) r
      have hQ : zz_Q (60 * (j + 1)) (a0, a1, a2, a3, a4, a5, a6, a7, a8, a9, a10, a11, a12, a13, a14, a15) (va_up a32 fr N) (nI fr) (nI n) (nI n) v2 a62 := zz_Q_f hle ⟨ir, ib, io, ip, il, jf⟩ ⟨pr, pb, pp, pl, pf⟩ hH d2 N
      rw [g_law37, f_L_addLanding, f_X12_addLanding, n1, zz_b, c1, zz_b, zc_set3, zz_b, if_neg (show ¬ ((3 : Nat) = 0) by decide), zz_b, if_neg (show ¬ ((3 : Nat) = 0) by decide), if_neg (show ¬ ((3 : Nat) = 1) by decide), if_pos (show (3 : Nat) = 3 from rfl), zz_b, f_X13_addLanding, b1, zz_b, c2, zz_b, d1, zz_b, zz_b, f_X13_thrown, zz_b, if_pos (show (2 : Int32) = 2 from rfl), if_neg (show ¬ ((2 : Int32) = 0) by decide)]
      exact ⟨_, rfl, hQ, zz_S_m hle hR.2.1, hR.2.2⟩
  · skip
    obtain ⟨past2, Tp, d1, d2⟩ := zm_ends_y (K := K) (v := v') (sl := va_up a32 fr N) (by omega) ⟨ir, ib, io, ip, il, jf⟩ (by rw [va_up_self]; exact n2) b2 (zz_H_up hH N) (nI a)
    have hs := zc_set a ha hH.1 hH.2.1
    have hQ : zz_Q (60 * (j + 1)) (a0, a1, a2, a3, a4, a5, a6, a7, a8, a9, a10, a11, a12, lc', ln', a15) (va_up a32 fr N) (nI ((fr + 1) % 9)) (nI (zz_nn1 n)) (nI (zz_nn1 n)) v' past2 := ⟨T', Tp, (fr + 1) % 9, zz_nn1 n, ⟨zz_Er_I tE.1 ir, zz_Eb_I tE.2.1 hle ib, zz_Io_E tE.1 tE.2.1 ib io, zz_Ep_I tE.2.2.1 ip, tI, zz_Ef_I tE.2.2.2 jf⟩, ⟨zz_Er_P tE.1 pr, zz_Eb_P tE.2.1 ib.2.1 pb, zz_Ep_P tE.2.2.1 ip pp, tP, zz_Ef_P tE.2.2.2 pf⟩, tM, rfl, rfl, rfl, zz_H_m hle d2⟩
    rw [g_law37, f_L_addLanding, f_X12_addLanding, n1, zz_b, c1, zz_b, hs, zz_b, if_pos (show (0 : Nat) = 0 from rfl), zz_b, if_pos (show (0 : Nat) = 0 from rfl), zz_b, f_X13_addLanding, b1, zz_b, c2, zz_b, d1, zz_b, zz_b, f_X13_thrown, zz_b, if_pos (show (0 : Int32) = 0 from rfl), if_pos (show (0 : Int32) = 0 from rfl), if_pos (zz_cmp _ _)]
    exact ⟨_, rfl, hQ, zz_S_m hle hR.2.1, hR.2.2⟩
theorem st_38 : g_ok38 zz_RR := by
  intro j hj a0 a1 a2 a3 a4 a5 a6 a7 a8 a9 a10 a11 a12 a13 a14 a15 a16 a17 a18 a19 a20 a21 a22 a23 a24 a25 a26 a27 a28 a29 a30 a31 a32 a33 a34 a35 a36 a37 a38 a39 a40 a41 a42 a43 a44 a45 a46 a47 a48 a49 a50 a51 a52 a53 a54 a55 a56 a57 a58 a59 a60 a61 a62 a63 a64 a65 a66 a67 a68 a69 a70 a71 a72 a73 a74 a75 a76 a77 a78 a79 p3 p4 x1 x2 x3 x4 hR
  obtain ⟨S, T, fr, n, ir, ib, io, ip, il, jf, pr, pb, pp, pl, pf, hM, rfl, rfl, rfl, hH⟩ := zz_out hR
  obtain ⟨K, hK⟩ : ∃ K, 9000000 ≤ K := ⟨9000000, Nat.le_refl _⟩
  have hle : 60 * j ≤ 60 * (j + 1) := by omega
  have hle1 : 60 * j + 1 ≤ 60 * (j + 1) := by omega
  have hB : 60 * j ≤ 1000000 := by omega
  have hK2 : 2000 ≤ K := by omega
  obtain ⟨N, n1, n2⟩ := zc_note (M := (a0, a1, a2, a3, a4, a5, a6, a7, a8, a9, a10, a11, a12, a13, a14, a15)) hH.1 ⟨ir, ib, io, ip, il, jf⟩ ⟨pr, pb, pp, pl, pf⟩ a32
  obtain ⟨w, b1, b2⟩ := zm_begins (K := K) (before := a60) (by omega) hM
  refine ⟨K, ?_⟩
  rcases zp_tear hK2 il pl hM x1 with ⟨c, e, r, c1, c2, hce⟩ | ⟨a, T', lc', ln', v', ha, c1, c2, tI, tE, tP, tM⟩
  · skip
    rcases hce with ⟨rfl, rfl⟩
    · obtain ⟨v2, d1, d2⟩ := zm_ends_f (K := K) (v := a59) (past := a62) (by omega) b2 (t := 1) (by decide) (nI n) r
      have hQ : zz_Q (60 * (j + 1)) (a0, a1, a2, a3, a4, a5, a6, a7, a8, a9, a10, a11, a12, a13, a14, a15) (va_up a32 fr N) (nI fr) (nI n) (nI n) v2 a62 := zz_Q_f hle ⟨ir, ib, io, ip, il, jf⟩ ⟨pr, pb, pp, pl, pf⟩ hH d2 N
      rw [g_law38, f_L_removeLanding, f_X12_removeLanding, n1, zz_b, c1, zz_b, zc_set1, zz_b, if_neg (show ¬ ((1 : Nat) = 0) by decide), zz_b, if_neg (show ¬ ((1 : Nat) = 0) by decide), if_pos (show (1 : Nat) = 1 from rfl), zz_b, f_X13_removeLanding, b1, zz_b, c2, zz_b, d1, zz_b, zz_b, f_X13_thrown, zz_b, if_pos (show (1 : Int32) = 1 from rfl), if_neg (show ¬ ((1 : Int32) = 0) by decide)]
      exact ⟨_, rfl, hQ, zz_S_m hle hR.2.1, hR.2.2⟩
  · skip
    obtain ⟨past2, Tp, d1, d2⟩ := zm_ends_y (K := K) (v := v') (sl := va_up a32 fr N) (by omega) ⟨ir, ib, io, ip, il, jf⟩ (by rw [va_up_self]; exact n2) b2 (zz_H_up hH N) (nI a)
    have hs := zc_set a ha hH.1 hH.2.1
    have hQ : zz_Q (60 * (j + 1)) (a0, a1, a2, a3, a4, a5, a6, a7, a8, a9, a10, a11, a12, lc', ln', a15) (va_up a32 fr N) (nI ((fr + 1) % 9)) (nI (zz_nn1 n)) (nI (zz_nn1 n)) v' past2 := ⟨T', Tp, (fr + 1) % 9, zz_nn1 n, ⟨zz_Er_I tE.1 ir, zz_Eb_I tE.2.1 hle ib, zz_Io_E tE.1 tE.2.1 ib io, zz_Ep_I tE.2.2.1 ip, tI, zz_Ef_I tE.2.2.2 jf⟩, ⟨zz_Er_P tE.1 pr, zz_Eb_P tE.2.1 ib.2.1 pb, zz_Ep_P tE.2.2.1 ip pp, tP, zz_Ef_P tE.2.2.2 pf⟩, tM, rfl, rfl, rfl, zz_H_m hle d2⟩
    rw [g_law38, f_L_removeLanding, f_X12_removeLanding, n1, zz_b, c1, zz_b, hs, zz_b, if_pos (show (0 : Nat) = 0 from rfl), zz_b, if_pos (show (0 : Nat) = 0 from rfl), zz_b, f_X13_removeLanding, b1, zz_b, c2, zz_b, d1, zz_b, zz_b, f_X13_thrown, zz_b, if_pos (show (0 : Int32) = 0 from rfl), if_pos (show (0 : Int32) = 0 from rfl), if_pos (zz_cmp _ _)]
    exact ⟨_, rfl, hQ, zz_S_m hle hR.2.1, hR.2.2⟩
end ZSC
