-- one run of a text: one step of the run
section ZSR
theorem zc_back {B fr : Nat} {S : Nat → Nat} {sl : Nat → mm_MV} (hf : fr < 9) (hi : zz_Inv B S) (hc : zz_Pc S (sl fr)) (d1 d2 d3 d4 d5 d6 d7 : Nat → Int32) : ∃ N, f_X4_putBack sl (nI fr) d1 d2 d3 d4 d5 d6 d7 = some N ∧ zz_Pc S N := by
  obtain ⟨N, n1, n2⟩ := zc_copy hi hc d1 d2 d3 d4 d5 d6 d7
  refine ⟨N, ?_, n2⟩
  rw [f_X4_putBack, zz_g hf (by decide), nI_clamp (by omega), n1]
set_option maxHeartbeats 20000000 in
theorem st_47 : g_ok47 zz_RR := by
  intro j hj a0 a1 a2 a3 a4 a5 a6 a7 a8 a9 a10 a11 a12 a13 a14 a15 a16 a17 a18 a19 a20 a21 a22 a23 a24 a25 a26 a27 a28 a29 a30 a31 a32 a33 a34 a35 a36 a37 a38 a39 a40 a41 a42 a43 a44 a45 a46 a47 a48 a49 a50 a51 a52 a53 a54 a55 a56 a57 a58 a59 a60 a61 a62 a63 a64 a65 a66 a67 a68 a69 a70 a71 a72 a73 a74 a75 a76 a77 a78 a79 p3 p4 x1 x2 x3 x4 hR
  obtain ⟨S, T, fr, n, ir, ib, io, ip, il, jf, pr, pb, pp, pl, pf, hM, rfl, rfl, rfl, hH⟩ := zz_out hR
  obtain ⟨K, hK⟩ : ∃ K, 9000000 ≤ K := ⟨9000000, Nat.le_refl _⟩
  have hle : 60 * j ≤ 60 * (j + 1) := by omega
  obtain ⟨m, t, hT, rfl, rfl⟩ := hR.2.2.1
  have hT0 : ∀ (sg tx : Nat → Int32), zz_Tx 0 t sg tx := fun _ _ => ⟨Nat.zero_le _, fun k hk => absurd hk (Nat.not_lt_zero k)⟩
  have hW : zz_Wd a72 a73 := hR.2.2.2.2.2.2
  have hm60 := hT.1
  obtain ⟨w, b1, b2⟩ := zm_begins (K := K) (before := a60) (by omega) hM
  obtain ⟨r, ki, sta, cc, r1, y1, il2, hp, wr, r2, r3⟩ := zp_read (v := a59) (far := a63) (scratch := a64) hT hW (show 100 ≤ K by omega) a66 a67 a68 a43 a44 a71
  refine ⟨K, ?_⟩
  rcases r3 with ⟨e, he, rfl, rfl, rfl⟩ | ⟨rfl, rfl, rfl, q, hq0, hq12, rfl, hrd, hct, hl⟩
  · rw [g_law47, f_L_run, f_X12_run, r1, zz_b, if_neg (show ¬ (nI e = -1) from zz_n1 (by omega)), f_X10_wipe, zz_b, zz_b, if_neg (show ¬ ((4 : Nat) = 0) by decide), if_pos (show (4 : Nat) = 4 from rfl), zz_b, f_X13_run, b1, zz_b, r2, zz_b, if_neg (show ¬ ((1 : Int32) = 0) by decide), f_X13_fail, zz_b, zz_b, f_X13_thrown, zz_b, if_pos (show (1 : Int32) = 1 from rfl), if_neg (show ¬ ((1 : Int32) = 0) by decide)]
    exact ⟨_, rfl, zz_Q_m hle hR.1, zz_S_m hle hR.2.1, ⟨0, t, hT0 _ _, rfl, rfl⟩, hR.2.2.2.1, ⟨rfl, Or.inr ⟨e, by omega, rfl⟩⟩, hR.2.2.2.2.2.1, hW⟩
  · obtain ⟨N, n1, n2⟩ := zc_note (M := (a0, a1, a2, a3, a4, a5, a6, a7, a8, a9, a10, a11, a12, a13, a14, a15)) hH.1 ⟨ir, ib, io, ip, il, jf⟩ ⟨pr, pb, pp, pl, pf⟩ a32
    have hsl : zz_Pc S (va_up a32 fr N fr) := by
      rw [va_up_self]
      exact n2
    rcases zp_all (M := (a0, a1, a2, a3, a4, a5, a6, a7, a8, a9, a10, a11, a12, a13, a14, a15)) hK (show 60 * j ≤ 900000 by omega) ⟨ir, ib, io, ip, il, jf⟩ ⟨pr, pb, pp, pl, pf⟩ hM hT hW hq0 hq12 hrd hct hl a35 a36 a39 a63 a64 il2 a66 a67 a68 with ⟨i, N2, t', q', f', e, w2, far2, sc2, x, y, z, il3, hp, hi, c1, c2, he⟩ | ⟨N2, T2, t', q', f', w2, far2, sc2, x, y, z, il3, c1, c2, g3, g4, g5, g6⟩
    · obtain ⟨v2, d1, d2⟩ := zm_ends_f (K := K) (v := w2) (past := a62) (by omega) b2 (t := 2) (by decide) (nI n) (nI (i + 1))
      obtain ⟨M', k1, k2⟩ := zc_back hH.1 ⟨ir, ib, io, ip, il, jf⟩ hsl N2.1 N2.2.2.2.1 N2.2.2.2.2.1 N2.2.2.2.2.2.1 N2.2.2.2.2.2.2.2.2.2.2.2.1 N2.2.2.2.2.2.2.2.2.2.2.2.2.1 N2.2.2.2.2.2.2.2.2.2.2.2.2.2.1
      have hsub : nI i = nI (i + 1) - 1 := by
        rw [zz_l1, pk_sub (by omega), Nat.add_sub_cancel]
      have hQ : zz_Q (60 * (j + 1)) M' (va_up a32 fr N) (nI fr) (nI n) (nI n) v2 a62 := ⟨S, T, fr, n, zz_Inv_m hle ⟨ir, ib, io, ip, il, jf⟩, k2, d2, rfl, rfl, rfl, zz_H_m hle (zz_H_up hH N)⟩
      rw [g_law47, f_L_run, f_X12_run, r1, zz_b, if_pos (show (-1 : Int32) = -1 from rfl), n1, zz_b, c1, zz_b, f_X10_wipe, zz_b, if_neg (show ¬ (nI i = -1) from zz_n1 (by omega)), k1, zz_b, zz_b, if_neg (show ¬ ((3 : Nat) = 0) by decide), if_neg (show ¬ ((3 : Nat) = 4) by decide), if_pos (show (3 : Nat) = 3 from rfl), zz_b, f_X13_run, b1, zz_b, r2, zz_b, if_pos (show (0 : Int32) = 0 from rfl), c2, zz_b, if_neg he, d1, zz_b, zz_b, f_X13_thrown, zz_b, if_pos (show (2 : Int32) = 2 from rfl), if_neg (show ¬ ((2 : Int32) = 0) by decide)]
      exact ⟨_, rfl, hQ, zz_S_m hle hR.2.1, ⟨0, t, hT0 _ _, rfl, rfl⟩, hR.2.2.2.1, hR.2.2.2.2.1, ⟨hsub, Or.inr ⟨i, by omega, rfl⟩⟩, hW⟩
    · obtain ⟨past2, Tp, d1, d2⟩ := zm_ends_y (K := K) (v := w2) (sl := va_up a32 fr N) (by omega) ⟨ir, ib, io, ip, il, jf⟩ hsl b2 (zz_H_up hH N) (nI q)
      have hcf := zc_confirm hH.1 hH.2.1
      have g6' : N2.2.2.2.2.2.2.2.2.2.1 = a9 := g6
      have hPc : zz_Pc T2 (N2.1, N2.2.1, N2.2.2.1, N2.2.2.2.1, N2.2.2.2.2.1, N2.2.2.2.2.2.1, N2.2.2.2.2.2.2.1, N2.2.2.2.2.2.2.2.1, N2.2.2.2.2.2.2.2.2.1, a9, N2.2.2.2.2.2.2.2.2.2.2.1, N2.2.2.2.2.2.2.2.2.2.2.2.1, N2.2.2.2.2.2.2.2.2.2.2.2.2.1, N2.2.2.2.2.2.2.2.2.2.2.2.2.2.1, N2.2.2.2.2.2.2.2.2.2.2.2.2.2.2.1, N2.2.2.2.2.2.2.2.2.2.2.2.2.2.2.2) := by
        rw [← g6']
        exact g4
      have hQ : zz_Q (60 * (j + 1)) (N2.1, N2.2.1, N2.2.2.1, N2.2.2.2.1, N2.2.2.2.2.1, N2.2.2.2.2.2.1, N2.2.2.2.2.2.2.1, N2.2.2.2.2.2.2.2.1, N2.2.2.2.2.2.2.2.2.1, a9, N2.2.2.2.2.2.2.2.2.2.2.1, N2.2.2.2.2.2.2.2.2.2.2.2.1, N2.2.2.2.2.2.2.2.2.2.2.2.2.1, N2.2.2.2.2.2.2.2.2.2.2.2.2.2.1, N2.2.2.2.2.2.2.2.2.2.2.2.2.2.2.1, N2.2.2.2.2.2.2.2.2.2.2.2.2.2.2.2) (va_up a32 fr N) (nI ((fr + 1) % 9)) (nI (zz_nn1 n)) (nI (zz_nn1 n)) w2 past2 := ⟨T2, Tp, (fr + 1) % 9, zz_nn1 n, zz_Inv_m (show 60 * j + 12 ≤ 60 * (j + 1) by omega) g3, hPc, g5, rfl, rfl, rfl, zz_H_m hle d2⟩
      rw [g_law47, f_L_run, f_X12_run, r1, zz_b, if_pos (show (-1 : Int32) = -1 from rfl), n1, zz_b, c1, zz_b, f_X10_wipe, zz_b, if_pos (show (-1 : Int32) = -1 from rfl), hcf, zz_b, zz_b, if_pos (show (0 : Nat) = 0 from rfl), zz_b, f_X13_run, b1, zz_b, r2, zz_b, if_pos (show (0 : Int32) = 0 from rfl), c2, zz_b, if_pos (show (0 : Int32) = 0 from rfl), d1, zz_b, zz_b, f_X13_thrown, zz_b, if_pos (show (0 : Int32) = 0 from rfl), if_pos (show (0 : Int32) = 0 from rfl), if_pos (zz_cmp _ _)]
      exact ⟨_, rfl, hQ, zz_S_m hle hR.2.1, ⟨0, t, hT0 _ _, rfl, rfl⟩, hR.2.2.2.1, hR.2.2.2.2.1, hR.2.2.2.2.2.1, hW⟩
end ZSR
