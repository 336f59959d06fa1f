-- the doing of all commands on both sides
section ZAL
variable {K n : Nat} {t : Nat → Nat} {sg tx wd wa : Nat → Int32}
theorem zp_doA {B p k : Nat} {M : mm_MV} {S : Nat → Nat} {v : Nat → Int32} (hK : 9000000 ≤ K) (hB : B ≤ 1000000) (hi : zz_Inv B S) (hc : zz_Pc S M) (hM : zz_Pm S v) (h : zz_Tx n t sg tx) (hw : zz_Wd wd wa) (hp : p ≤ 60) (hkd : zz_kd t n p = some k) (tl qu fo far scratch il : Nat → Int32) (tX tY tM : Int32) : ∃ il', zz_dn (B + 1) M (f_X12_carryOut K M.1 M.2.1 M.2.2.1 M.2.2.2.1 M.2.2.2.2.1 M.2.2.2.2.2.1 M.2.2.2.2.2.2.1 M.2.2.2.2.2.2.2.1 M.2.2.2.2.2.2.2.2.1 M.2.2.2.2.2.2.2.2.2.2.1 M.2.2.2.2.2.2.2.2.2.2.2.1 M.2.2.2.2.2.2.2.2.2.2.2.2.1 M.2.2.2.2.2.2.2.2.2.2.2.2.2.1 M.2.2.2.2.2.2.2.2.2.2.2.2.2.2.1 M.2.2.2.2.2.2.2.2.2.2.2.2.2.2.2 tl qu fo sg (nI n) (nI p) k) (f_X13_command K 0 v far scratch tX tY tM tx il wd wa (nI p) (nI n) 0 1) il' (nI (zz_en t n p k)) 0 := by
  obtain ⟨hk, hk2⟩ := zz_kd_y hkd
  obtain ⟨il', y0, y1, y2, y3, e, a0, a1, a2⟩ := zm_cmd_1 (v := v) (far := far) (scratch := scratch) h hw (show 100 ≤ K by omega) hp hkd il tX tY tM
  refine ⟨il', ?_⟩
  rw [e]
  have hkk : k = 0 ∨ k = 1 ∨ k = 2 ∨ k = 3 ∨ k = 4 ∨ k = 5 ∨ k = 6 ∨ k = 7 ∨ k = 8 ∨ k = 9 ∨ k = 10 := by omega
  rcases hkk with rfl | rfl | rfl | rfl | rfl | rfl | rfl | rfl | rfl | rfl | rfl
  · exact zp_do0 hK hB hi hc hM tl qu fo far scratch tX tY tM h il' a0 a1
  · exact zp_do1 hK hB hi hc hM tl qu fo far scratch tX tY tM h il' a0 a1
  · exact zp_do2 hK hB hi hc hM tl qu fo far scratch tX tY tM h il' a0 a1
  · obtain ⟨g1, _, g3, _⟩ := zz_pat1 3 (by decide)
    have hn := zz_m_n (t := t) (n := n) (p := p) (k := 3) (by omega)
    exact zp_do3 hK hB hi hc hM tl qu fo far scratch tX tY tM h il' a0 a1 (q := p + zz_pl 3) (by omega) (by rw [g1, nI_add]) rfl (congrArg nI (show zz_en t n p 3 = zz_em t n (p + zz_pl 3) from if_pos rfl))
  · exact zp_do4 hK hB hi hc hM tl qu fo far scratch tX tY tM h il' a0 a1
  · exact zp_do5 hK hB hi hc hM tl qu fo far scratch tX tY tM h il' a0 a1
  · exact zp_do6 hK hB hi hc hM tl qu fo far scratch tX tY tM h il' a0 a1
  · exact zp_do7 hK hB hi hc hM tl qu fo far scratch tX tY tM h il' a0 a1
  · exact zp_do8 hK hB hi hc hM tl qu fo far scratch tX tY tM h il' a0 a1 (a2 rfl).1 (a2 rfl).2
  · exact zp_do9 hK hB hi hc hM tl qu fo far scratch tX tY tM h il' a0 a1
  · exact zp_do10 hK hB hi hc hM tl qu fo far scratch tX tY tM h il' a0 a1
/-- how the doing of all commands ends -/
def zz_dall (B m n : Nat) (M : mm_MV) (C : Option (Int32 × (Nat → Int32) × Int32 × Int32 × (Nat → Int32) × (Nat → Int32) × (Nat → Int32) × Int32 × Int32 × Int32 × Int32 × (Nat → Int32) × (Nat → Int32) × (Nat → Int32) × Int32 × Int32 × (Nat → Int32) × (Nat → Int32) × (Nat → Int32))) (D : Option (Int32 × Int32 × (Nat → Int32) × (Nat → Int32) × (Nat → Int32) × Int32 × Int32 × Int32 × (Nat → Int32) × Int32 × Int32)) : Prop :=
  (∃ (j : Nat) (N : mm_MV) (t q f : Nat → Int32) (e : Int32) (w far sc : Nat → Int32) (x y z : Int32) (il : Nat → Int32) (hp : Int32), j < m ∧ C = some (nI j, N.1, N.2.1, N.2.2.1, N.2.2.2.1, N.2.2.2.2.1, N.2.2.2.2.2.1, N.2.2.2.2.2.2.1, N.2.2.2.2.2.2.2.1, N.2.2.2.2.2.2.2.2.1, N.2.2.2.2.2.2.2.2.2.2.1, N.2.2.2.2.2.2.2.2.2.2.2.1, N.2.2.2.2.2.2.2.2.2.2.2.2.1, N.2.2.2.2.2.2.2.2.2.2.2.2.2.1, N.2.2.2.2.2.2.2.2.2.2.2.2.2.2.1, N.2.2.2.2.2.2.2.2.2.2.2.2.2.2.2, t, q, f) ∧ D = some (nI (j + 1), e, w, far, sc, x, y, z, il, hp, 0) ∧ ¬ e = 0) ∨
  (∃ (N : mm_MV) (T : Nat → Nat) (t q f : Nat → Int32) (w far sc : Nat → Int32) (x y z : Int32) (il : Nat → Int32), C = some (-1, N.1, N.2.1, N.2.2.1, N.2.2.2.1, N.2.2.2.2.1, N.2.2.2.2.2.1, N.2.2.2.2.2.2.1, N.2.2.2.2.2.2.2.1, N.2.2.2.2.2.2.2.2.1, N.2.2.2.2.2.2.2.2.2.2.1, N.2.2.2.2.2.2.2.2.2.2.2.1, N.2.2.2.2.2.2.2.2.2.2.2.2.1, N.2.2.2.2.2.2.2.2.2.2.2.2.2.1, N.2.2.2.2.2.2.2.2.2.2.2.2.2.2.1, N.2.2.2.2.2.2.2.2.2.2.2.2.2.2.2, t, q, f) ∧ D = some (nI m, 0, w, far, sc, x, y, z, il, nI n, 0) ∧ zz_Inv B T ∧ zz_Pc T N ∧ zz_Pm T w ∧ N.2.2.2.2.2.2.2.2.2.1 = M.2.2.2.2.2.2.2.2.2.1)
theorem zz_sf60 (h : zz_Tx n t sg tx) {i : Nat} (hc : ∀ j, j < i → zz_ct t n j) : zz_sf t n i ≤ 60 := by
  cases i with
  | zero => exact Nat.zero_le _
  | succ i =>
    have h1 := (hc i (Nat.lt_succ_self i)).1
    have h2 := h.1
    show zz_nx t n (zz_sf t n i) + 1 ≤ 60
    omega
theorem zp_allL (hK : 9000000 ≤ K) (h : zz_Tx n t sg tx) (hw : zz_Wd wd wa) {kinds starts : Nat → Int32} {m : Nat} (hm12 : m ≤ 12) (hrd : zz_rdd t n kinds starts m) (hct : ∀ j, j + 1 < m → zz_ct t n j) (hl : zz_nx t n (zz_sf t n (m - 1)) = n) : ∀ d i, i + d = m → 0 < d → ∀ (B : Nat) (M : mm_MV) (S : Nat → Nat) (v tl qu fo far scratch il : Nat → Int32) (tX tY tM : Int32) (K1 K2 : Nat), B + d ≤ 1000000 → zz_Inv B S → zz_Pc S M → zz_Pm S v → d < K1 → d < K2 → zz_dall (B + d) m n M (f_X12_carryOutAll_L2 K kinds starts (nI m) sg (nI n) K1 (nI i) M.1 M.2.1 M.2.2.1 M.2.2.2.1 M.2.2.2.2.1 M.2.2.2.2.2.1 M.2.2.2.2.2.2.1 M.2.2.2.2.2.2.2.1 M.2.2.2.2.2.2.2.2.1 M.2.2.2.2.2.2.2.2.2.2.1 M.2.2.2.2.2.2.2.2.2.2.2.1 M.2.2.2.2.2.2.2.2.2.2.2.2.1 M.2.2.2.2.2.2.2.2.2.2.2.2.2.1 M.2.2.2.2.2.2.2.2.2.2.2.2.2.2.1 M.2.2.2.2.2.2.2.2.2.2.2.2.2.2.2 tl qu fo) ((f_X13_command K 0 v far scratch tX tY tM tx il wd wa (nI (zz_sf t n i)) (nI n) 0 1).bind fun q => f_X13_commands_L16 K tx wd wa (nI n) 1 K2 (nI (i + 1)) q.1 q.2.1 q.2.2.1 q.2.2.2.1 q.2.2.2.2.1 q.2.2.2.2.2.1 q.2.2.2.2.2.2.1 q.2.2.2.2.2.2.2.1 q.2.2.2.2.2.2.2.2.1 q.2.2.2.2.2.2.2.2.2) := by
  intro d
  induction d with
  | zero => intro i _ h0; exact absurd h0 (Nat.lt_irrefl 0)
  | succ d ih =>
    intro i him _ B M S v tl qu fo far scratch il tX tY tM K1 K2 hB hi hc hM h1 h2
    obtain ⟨L1, rfl, g1⟩ := zz_k K1 (d + 1) h1
    obtain ⟨L2, rfl, g2⟩ := zz_k K2 (d + 1) h2
    have hn60 := h.1
    have hs60 : zz_sf t n i ≤ 60 := zz_sf60 h (fun j hj => hct j (by omega))
    obtain ⟨k, hkd, hki, hst⟩ := hrd i (by omega)
    obtain ⟨hk, hk2⟩ := zz_kd_y hkd
    obtain ⟨_, c2, c3⟩ := zc_endIn h (show 100 ≤ K by omega) hs60 hkd
    obtain ⟨il', hd⟩ := zp_doA hK (show B ≤ 1000000 by omega) hi hc hM h hw hs60 hkd tl qu fo far scratch il tX tY tM
    rw [f_X12_carryOutAll_L2, if_neg (nI_ge (show i < m by omega) (by omega)), zz_g (show i < 60 by omega) (by decide), zz_g (show i < 60 by omega) (by decide), nI_clamp (show i < 2 ^ 31 by omega), hki, hst, zz_g hk (by decide), nI_clamp (show k < 2 ^ 31 by omega)]
    rcases hd with ⟨c, N, t', q', f', e, w, far', sc', x, y, z, e1, e2, e3, e4⟩ | ⟨a, N, T, t', q', f', w, far', sc', x, y, z, ha, e1, e2, e3, e4, e5, e6⟩
    · rw [e1, zz_b, e2, zz_b]
      refine Or.inl ⟨i, N, t', q', f', e, w, far', sc', x, y, z, il', nI (zz_en t n (zz_sf t n i) k), by omega, ?_, ?_, e4⟩
      · exact if_neg e3
      · show f_X13_commands_L16 K tx wd wa (nI n) 1 (L2 + 1) (nI (i + 1)) e w far' sc' x y z il' (nI (zz_en t n (zz_sf t n i) k)) 0 = _
        rw [f_X13_commands_L16, if_pos rfl, if_neg e4]
    · rw [e1, zz_b, e2, zz_b]
      show zz_dall (B + (d + 1)) m n M (if (0 : Int32) ≤ nI a then f_X12_carryOutAll_L2 K kinds starts (nI m) sg (nI n) L1 (nI i + 1) N.1 N.2.1 N.2.2.1 N.2.2.2.1 N.2.2.2.2.1 N.2.2.2.2.2.1 N.2.2.2.2.2.2.1 N.2.2.2.2.2.2.2.1 N.2.2.2.2.2.2.2.2.1 N.2.2.2.2.2.2.2.2.2.2.1 N.2.2.2.2.2.2.2.2.2.2.2.1 N.2.2.2.2.2.2.2.2.2.2.2.2.1 N.2.2.2.2.2.2.2.2.2.2.2.2.2.1 N.2.2.2.2.2.2.2.2.2.2.2.2.2.2.1 N.2.2.2.2.2.2.2.2.2.2.2.2.2.2.2 t' q' f' else some (nI i, N.1, N.2.1, N.2.2.1, N.2.2.2.1, N.2.2.2.2.1, N.2.2.2.2.2.1, N.2.2.2.2.2.2.1, N.2.2.2.2.2.2.2.1, N.2.2.2.2.2.2.2.2.1, N.2.2.2.2.2.2.2.2.2.2.1, N.2.2.2.2.2.2.2.2.2.2.2.1, N.2.2.2.2.2.2.2.2.2.2.2.2.1, N.2.2.2.2.2.2.2.2.2.2.2.2.2.1, N.2.2.2.2.2.2.2.2.2.2.2.2.2.2.1, N.2.2.2.2.2.2.2.2.2.2.2.2.2.2.2, t', q', f')) (f_X13_commands_L16 K tx wd wa (nI n) 1 (L2 + 1) (nI (i + 1)) 0 w far' sc' x y z il' (nI (zz_en t n (zz_sf t n i) k)) 0)
      rw [if_pos (show (0 : Int32) ≤ nI a from nI_le (a := 0) (Nat.zero_le a) ha), nI_1, f_X13_commands_L16, if_pos rfl, if_pos rfl]
      have hnx := zz_nx_y hkd
      by_cases hd0 : d = 0
      · have him2 : i + 1 = m := by omega
        have hen : zz_en t n (zz_sf t n i) k = n := by
          rw [← hnx]
          have : m - 1 = i := by omega
          rw [this] at hl
          exact hl
        obtain ⟨L3, rfl, _⟩ := zz_k L1 0 (by omega)
        rw [hen, if_pos (nI_le (Nat.le_refl n) (by omega)), him2, f_X12_carryOutAll_L2, if_pos (nI_le (Nat.le_refl m) (by omega))]
        refine Or.inr ⟨N, T, t', q', f', w, far', sc', x, y, z, il', rfl, rfl, ?_, e4, e5, e6⟩
        rw [hd0]
        exact e3
      · obtain ⟨u1, u2⟩ := hct i (by omega)
        rw [hnx] at u1 u2
        have hsf : zz_sf t n (i + 1) = zz_en t n (zz_sf t n i) k + 1 := by
          show zz_nx t n (zz_sf t n i) + 1 = _
          rw [hnx]
        rw [if_neg (nI_ge u1 (by omega)), f_X13_mark, if_pos rfl, zm_signV h (by omega), zz_b, if_pos u1, u2, if_pos (show nI 59 = 59 by decide), zz_b, if_pos rfl, nI_1, nI_1]
        have key := ih (i + 1) (by omega) (by omega) (B + 1) N T w t' q' f' far' sc' il' x y z L1 L2 (by omega) e3 e4 e5 (by omega) (by omega)
        rw [hsf] at key
        rcases key with ⟨j, N2, t2, q2, f2, e', w2, far2, sc2, x2, y2, z2, il2, hp2, k1, k2, k3, k4⟩ | ⟨N2, T2, t2, q2, f2, w2, far2, sc2, x2, y2, z2, il2, k1, k2, k3, k4, k5, k6⟩
        · exact Or.inl ⟨j, N2, t2, q2, f2, e', w2, far2, sc2, x2, y2, z2, il2, hp2, k1, k2, k3, k4⟩
        · refine Or.inr ⟨N2, T2, t2, q2, f2, w2, far2, sc2, x2, y2, z2, il2, k1, k2, ?_, k4, k5, k6.trans e6⟩
          rw [show B + (d + 1) = B + 1 + d by omega]
          exact k3
theorem zp_all {B m : Nat} {M : mm_MV} {S : Nat → Nat} {v kinds starts : Nat → Int32} (hK : 9000000 ≤ K) (hB : B ≤ 900000) (hi : zz_Inv B S) (hc : zz_Pc S M) (hM : zz_Pm S v) (h : zz_Tx n t sg tx) (hw : zz_Wd wd wa) (hm0 : 0 < m) (hm12 : m ≤ 12) (hrd : zz_rdd t n kinds starts m) (hct : ∀ j, j + 1 < m → zz_ct t n j) (hl : zz_nx t n (zz_sf t n (m - 1)) = n) (tl qu fo far scratch il : Nat → Int32) (tX tY tM : Int32) : zz_dall (B + 12) m n M (f_X12_carryOutAll K M.1 M.2.1 M.2.2.1 M.2.2.2.1 M.2.2.2.2.1 M.2.2.2.2.2.1 M.2.2.2.2.2.2.1 M.2.2.2.2.2.2.2.1 M.2.2.2.2.2.2.2.2.1 M.2.2.2.2.2.2.2.2.2.2.1 M.2.2.2.2.2.2.2.2.2.2.2.1 M.2.2.2.2.2.2.2.2.2.2.2.2.1 M.2.2.2.2.2.2.2.2.2.2.2.2.2.1 M.2.2.2.2.2.2.2.2.2.2.2.2.2.2.1 M.2.2.2.2.2.2.2.2.2.2.2.2.2.2.2 tl qu fo kinds starts (nI m) sg (nI n)) (f_X13_commands K 0 v far scratch tX tY tM tx il wd wa (nI n) 1) := by
  have key := zp_allL hK h hw hm12 hrd hct hl m 0 (by omega) hm0 B M S v tl qu fo far scratch il tX tY tM K K (by omega) hi hc hM (by omega) (by omega)
  have hm : f_X13_commands K 0 v far scratch tX tY tM tx il wd wa (nI n) 1 = ((f_X13_command K 0 v far scratch tX tY tM tx il wd wa (nI (zz_sf t n 0)) (nI n) 0 1).bind fun q => f_X13_commands_L16 K tx wd wa (nI n) 1 K (nI (0 + 1)) q.1 q.2.1 q.2.2.1 q.2.2.2.1 q.2.2.2.2.1 q.2.2.2.2.2.1 q.2.2.2.2.2.2.1 q.2.2.2.2.2.2.2.1 q.2.2.2.2.2.2.2.2.1 q.2.2.2.2.2.2.2.2.2) := by
    rw [f_X13_commands]
    show ((f_X13_command K 0 v far scratch tX tY tM tx il wd wa (nI 0) (nI n) 0 1).bind _) = ((f_X13_command K 0 v far scratch tX tY tM tx il wd wa (nI 0) (nI n) 0 1).bind _)
    cases f_X13_command K 0 v far scratch tX tY tM tx il wd wa (nI 0) (nI n) 0 1 with
    | none => rfl
    | some q =>
      rw [zz_b, zz_b]
      show ((f_X13_commands_L16 K tx wd wa (nI n) 1 K (nI (0 + 1)) q.1 q.2.1 q.2.2.1 q.2.2.2.1 q.2.2.2.2.1 q.2.2.2.2.2.1 q.2.2.2.2.2.2.1 q.2.2.2.2.2.2.2.1 q.2.2.2.2.2.2.2.2.1 q.2.2.2.2.2.2.2.2.2).bind _) = f_X13_commands_L16 K tx wd wa (nI n) 1 K (nI (0 + 1)) q.1 q.2.1 q.2.2.1 q.2.2.2.1 q.2.2.2.2.1 q.2.2.2.2.2.1 q.2.2.2.2.2.2.1 q.2.2.2.2.2.2.2.1 q.2.2.2.2.2.2.2.2.1 q.2.2.2.2.2.2.2.2.2
      cases f_X13_commands_L16 K tx wd wa (nI n) 1 K (nI (0 + 1)) q.1 q.2.1 q.2.2.1 q.2.2.2.1 q.2.2.2.2.1 q.2.2.2.2.2.1 q.2.2.2.2.2.2.1 q.2.2.2.2.2.2.2.1 q.2.2.2.2.2.2.2.2.1 q.2.2.2.2.2.2.2.2.2 with
      | none => rfl
      | some r => rfl
  rw [hm]
  rcases key with ⟨j, N2, t2, q2, f2, e', w2, far2, sc2, x2, y2, z2, il2, hp2, k1, k2, k3, k4⟩ | ⟨N2, T2, t2, q2, f2, w2, far2, sc2, x2, y2, z2, il2, k1, k2, k3, k4, k5, k6⟩
  · exact Or.inl ⟨j, N2, t2, q2, f2, e', w2, far2, sc2, x2, y2, z2, il2, hp2, k1, k2, k3, k4⟩
  · exact Or.inr ⟨N2, T2, t2, q2, f2, w2, far2, sc2, x2, y2, z2, il2, k1, k2, zz_Inv_m (show B + m ≤ B + 12 by omega) k3, k4, k5, k6⟩
end ZAL
