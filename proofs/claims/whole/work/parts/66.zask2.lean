-- calls that ask for boats and plans
section ZA2
variable {S : Nat → Nat} {B K : Nat} {st nu ce fa mo le sp : Nat → Int32} {ct br fc nx to re me : Int32} {v : Nat → Int32}
/-- what the two sides say: the class's exception or answer, the reference's -/
def zz_w2 (cc : Nat) (cv r e : Int32) : Prop := (cc = 0 ∧ e = 0 ∧ cv = r) ∨ (cc = 2 ∧ e = 1)
theorem zp_boatAt (ib : zz_Ib B S) (pb : zz_Pb S nu ce fa fc nx to re me) (hM : zz_Pm S v) (x : Int32) : ∃ cc cv r e, f_X12_boatAt nu fc x = some (cc, cv) ∧ f_X13_boatAt v x = some (r, e) ∧ ((cc = 0 ∧ e = 0 ∧ cv = r) ∨ (cc = 1 ∧ e = 1)) := by
  obtain ⟨p1, p2, p3, rfl, p5, p6, p7, p8⟩ := pb
  have h4 := ib.2.1
  have hv3 : v 3 = nI (S 3) := hM 3 (by decide)
  rcases zm_isIn x (n := S 3) (by omega) with ⟨h, h2⟩ | ⟨b, hb, rfl, h⟩
  · refine ⟨1, 0, 0, 1, ?_, ?_, Or.inr ⟨rfl, rfl⟩⟩
    · rw [f_X12_boatAt]
      rcases h2 with h2 | h2
      · rw [if_pos h2.1]
      · rw [if_neg h2.1, if_neg h2.2.2.2]
    · rw [f_X13_boatAt, hv3, h]
      rfl
  · refine ⟨0, nI (S (88 + 4 * b)), nI (S (88 + 4 * b)), 0, ?_, ?_, Or.inl ⟨rfl, rfl, rfl⟩⟩
    · rw [f_X12_boatAt, if_neg (nI_pos (by omega)), if_pos (nI_lt hb (by omega)), zz_g (by omega) (by decide), nI_clamp (by omega), p1 b hb]
    · rw [f_X13_boatAt, hv3, h, zz_b, if_neg (by decide), zm_of0, zz_b, zz_g (by omega) (by decide), nI_clamp (by omega), hM _ (by omega)]
theorem zm_tells (hM : zz_Pm S v) (h4 : S 3 ≤ 4) (hK : 10 ≤ K) (x : Int32) (k : Nat) (hk : k < 4) : f_X13_tellsOf K v x (nI k) = some (match zz_fd S x with
    | some b => (nI (S (88 + k + 4 * b)), 0)
    | none => (0, 1)) := by
  have hfind := zm_find (K := K) hM h4 hK x
  rw [f_X13_tellsOf, hfind, zz_b]
  cases hf : zz_fd S x with
  | none => rfl
  | some b =>
    obtain ⟨hb, _, _⟩ := zz_fi_some hf
    rw [zz_os, if_pos (nI_pos' (by omega)), zz_b, zm_of, zz_b, zz_g (by omega) (by decide), nI_clamp (by omega), hM _ (by omega)]
theorem zp_column (ib : zz_Ib B S) (pb : zz_Pb S nu ce fa fc nx to re me) (hM : zz_Pm S v) (hK : 10 ≤ K) (x : Int32) : ∃ cc cv r e, f_X12_columnOf K nu ce fc x = some (cc, cv) ∧ f_X13_columnOf K v x = some (r, e) ∧ zz_w2 cc cv r e := by
  obtain ⟨p1, p2, p3, rfl, p5, p6, p7, p8⟩ := pb
  have h4 := ib.2.1
  have ht := zm_tells (K := K) hM h4 hK x 1 (by decide)
  cases hf : zz_fd S x with
  | none =>
    rw [hf] at ht
    refine ⟨2, 0, 0, 1, ?_, ?_, Or.inr ⟨rfl, rfl⟩⟩
    · rw [f_X12_columnOf, zc_place_n p1 h4 hK hf]
      rfl
    · rw [f_X13_columnOf, zz_l1, ht]
      rfl
  | some b =>
    obtain ⟨hb, _, _⟩ := zz_fi_some hf
    rw [hf] at ht
    have hxy := ib.2.2.2.2 b hb
    have ex : S (89 + 4 * b) = zz_c S b % 9 := by unfold zz_c; omega
    refine ⟨0, nI (S (89 + 4 * b)), nI (S (89 + 4 * b)), 0, ?_, ?_, Or.inl ⟨rfl, rfl, rfl⟩⟩
    · rw [f_X12_columnOf, zc_place_y p1 h4 hK hf, zz_b, if_pos rfl, zz_g (by omega) (by decide), nI_clamp (by omega), p2 b hb, zc_column _ (zz_Ib_c ib hb), zz_b, ex]
    · rw [f_X13_columnOf, zz_l1, ht]
      rfl
theorem zp_rowOf (ib : zz_Ib B S) (pb : zz_Pb S nu ce fa fc nx to re me) (hM : zz_Pm S v) (hK : 10 ≤ K) (x : Int32) : ∃ cc cv r e, f_X12_rowOf K nu ce fc x = some (cc, cv) ∧ f_X13_rowOf K v x = some (r, e) ∧ zz_w2 cc cv r e := by
  obtain ⟨p1, p2, p3, rfl, p5, p6, p7, p8⟩ := pb
  have h4 := ib.2.1
  have ht := zm_tells (K := K) hM h4 hK x 2 (by decide)
  cases hf : zz_fd S x with
  | none =>
    rw [hf] at ht
    refine ⟨2, 0, 0, 1, ?_, ?_, Or.inr ⟨rfl, rfl⟩⟩
    · rw [f_X12_rowOf, zc_place_n p1 h4 hK hf]
      rfl
    · rw [f_X13_rowOf, zz_l2, ht]
      rfl
  | some b =>
    obtain ⟨hb, _, _⟩ := zz_fi_some hf
    rw [hf] at ht
    have hxy := ib.2.2.2.2 b hb
    have ey : S (90 + 4 * b) = zz_c S b / 9 := by unfold zz_c; omega
    refine ⟨0, nI (S (90 + 4 * b)), nI (S (90 + 4 * b)), 0, ?_, ?_, Or.inl ⟨rfl, rfl, rfl⟩⟩
    · rw [f_X12_rowOf, zc_place_y p1 h4 hK hf, zz_b, if_pos rfl, zz_g (by omega) (by decide), nI_clamp (by omega), p2 b hb, zc_row _ (zz_Ib_c ib hb), zz_b, ey]
    · rw [f_X13_rowOf, zz_l2, ht]
      rfl
theorem zp_imcol (ib : zz_Ib B S) (pb : zz_Pb S nu ce fa fc nx to re me) (hM : zz_Pm S v) (hK : 10 ≤ K) (x : Int32) : ∃ cc cv r e, f_X12_imageColumnOf K nu ce fc x = some (cc, cv) ∧ f_X13_imageColumnOf K v x = some (r, e) ∧ zz_w2 cc cv r e := by
  obtain ⟨p1, p2, p3, rfl, p5, p6, p7, p8⟩ := pb
  have h4 := ib.2.1
  have ht := zm_tells (K := K) hM h4 hK x 1 (by decide)
  cases hf : zz_fd S x with
  | none =>
    rw [hf] at ht
    refine ⟨2, 0, 0, 1, ?_, ?_, Or.inr ⟨rfl, rfl⟩⟩
    · rw [f_X12_imageColumnOf, zc_place_n p1 h4 hK hf]
      rfl
    · rw [f_X13_imageColumnOf, zz_l1, ht]
      rfl
  | some b =>
    obtain ⟨hb, _, _⟩ := zz_fi_some hf
    rw [hf] at ht
    have hxy := ib.2.2.2.2 b hb
    have h81 := zz_Ib_c ib hb
    have ex : S (89 + 4 * b) = zz_c S b % 9 := by unfold zz_c; omega
    refine ⟨0, nI (8 - S (89 + 4 * b)), nI (8 - S (89 + 4 * b)), 0, ?_, ?_, Or.inl ⟨rfl, rfl, rfl⟩⟩
    · rw [f_X12_imageColumnOf, zc_place_y p1 h4 hK hf, zz_b, if_pos rfl, zz_g (by omega) (by decide), nI_clamp (by omega), p2 b hb, zc_image _ h81, zz_b, zc_column _ (zz_i_lt _ h81), zz_b, zz_i_col _ h81, ex]
    · rw [f_X13_imageColumnOf, zz_l1, ht, zz_b]
      show (if (0 : Int32) = 0 then some (8 - nI (S (88 + 1 + 4 * b)), 0) else _) = _
      rw [if_pos rfl, zz_l8, show 88 + 1 + 4 * b = 89 + 4 * b by omega, pk_sub (by omega)]
theorem zp_fares (ib : zz_Ib B S) (pb : zz_Pb S nu ce fa fc nx to re me) (hM : zz_Pm S v) (hK : 10 ≤ K) (x : Int32) : ∃ cc cv r e, f_X12_faresOf K nu fa fc x = some (cc, cv) ∧ f_X13_faresOf K v x = some (r, e) ∧ zz_w2 cc cv r e := by
  obtain ⟨p1, p2, p3, rfl, p5, p6, p7, p8⟩ := pb
  have h4 := ib.2.1
  have ht := zm_tells (K := K) hM h4 hK x 3 (by decide)
  cases hf : zz_fd S x with
  | none =>
    rw [hf] at ht
    refine ⟨2, 0, 0, 1, ?_, ?_, Or.inr ⟨rfl, rfl⟩⟩
    · rw [f_X12_faresOf, zc_place_n p1 h4 hK hf]
      rfl
    · rw [f_X13_faresOf, zz_l3, ht]
      rfl
  | some b =>
    obtain ⟨hb, _, _⟩ := zz_fi_some hf
    rw [hf] at ht
    refine ⟨0, nI (S (91 + 4 * b)), nI (S (91 + 4 * b)), 0, ?_, ?_, Or.inl ⟨rfl, rfl, rfl⟩⟩
    · rw [f_X12_faresOf, zc_place_y p1 h4 hK hf, zz_b, if_pos rfl, zz_g (by omega) (by decide), nI_clamp (by omega), p3 b hb]
    · rw [f_X13_faresOf, zz_l3, ht]
      rfl
/-- ranks -/
def zz_rkq (S : Nat → Nat) (b o : Nat) : Nat := if S (91 + 4 * b) < S (91 + 4 * o) ∨ (S (91 + 4 * o) = S (91 + 4 * b) ∧ o < b) then 1 else 0
def zz_rk (S : Nat → Nat) (b : Nat) : Nat := zz_sm (zz_rkq S b) (S 3)
def zz_rkp (S : Nat → Nat) (x : Int32) (b : Nat) : Bool := decide (nI (zz_rk S b) = x)
theorem zz_fare_le (hB : B ≤ 1000000) (ib : zz_Ib B S) {b : Nat} (hb : b < S 3) : S (91 + 4 * b) < 2 ^ 31 := by
  have := zz_fs_le ib hb
  have := ib.2.2.1
  omega
theorem zc_rankOf (hB : B ≤ 1000000) (ib : zz_Ib B S) (p3 : ∀ b, b < S 3 → fa b = nI (S (91 + 4 * b))) (hK : 10 ≤ K) {b : Nat} (hb : b < S 3) : f_X3_rankOf K fa (nI (S 3)) (nI b) = some (nI (zz_rk S b)) := by
  have h4 := ib.2.1
  have hfb := zz_fare_le hB ib hb
  have hL : f_X3_rankOf_L4 fa (nI (S 3)) (nI b) K (nI 0) (nI 0) = some (nI (zz_rk S b)) := by
    refine zz_for0 (fun K i (r : Int32) => f_X3_rankOf_L4 fa (nI (S 3)) (nI b) K r (nI i)) (S 3) (fun i r => r = nI (zz_sm (zz_rkq S b) i)) (fun z => z = some (nI (zz_rk S b))) ?_ ?_ K (nI 0) (by omega) rfl
    · intro k r h
      show f_X3_rankOf_L4 fa (nI (S 3)) (nI b) (k + 1) r (nI (S 3)) = _
      rw [f_X3_rankOf_L4, if_pos (nI_le (Nat.le_refl _) (by omega)), h]
      rfl
    · intro k i r hi h ih
      have hfi := zz_fare_le hB ib hi
      show f_X3_rankOf_L4 fa (nI (S 3)) (nI b) (k + 1) r (nI i) = _
      have hst : zz_sm (zz_rkq S b) (i + 1) = zz_sm (zz_rkq S b) i + zz_rkq S b i := rfl
      unfold zz_rkq at hst
      rw [f_X3_rankOf_L4, if_neg (nI_ge hi (by omega)), zz_g (by omega) (by decide), zz_g (by omega) (by decide), zz_g (by omega) (by decide), zz_g (by omega) (by decide), zz_g (by omega) (by decide), zz_g (by omega) (by decide), nI_clamp (by omega), nI_clamp (by omega), p3 i hi, p3 b hb, nI_1, h, nI_1, zz_l0, nI_add]
      by_cases g : S (91 + 4 * i) ≤ S (91 + 4 * b)
      · rw [if_pos (nI_le g hfb)]
        by_cases e : S (91 + 4 * i) = S (91 + 4 * b)
        · rw [if_pos (congrArg nI e)]
          by_cases q : b ≤ i
          · rw [if_pos (nI_le q (by omega))]
            rw [if_neg (by omega)] at hst
            exact ih _ (congrArg nI hst.symm)
          · rw [if_neg (nI_ge (by omega) (by omega))]
            rw [if_pos (by omega)] at hst
            exact ih _ (congrArg nI hst.symm)
        · rw [if_neg (zz_ne e (by omega) (by omega))]
          rw [if_neg (by omega)] at hst
          exact ih _ (congrArg nI hst.symm)
      · rw [if_neg (nI_ge (by omega) (by omega)), if_neg (zz_ne (by omega) (by omega) (by omega))]
        rw [if_pos (by omega)] at hst
        exact ih _ (congrArg nI hst.symm)
  rw [f_X3_rankOf]
  show (f_X3_rankOf_L4 fa (nI (S 3)) (nI b) K (nI 0) (nI 0)).bind _ = _
  rw [hL]
  rfl
theorem zm_rankOf (hB : B ≤ 1000000) (ib : zz_Ib B S) (hM : zz_Pm S v) (hK : 10 ≤ K) {b : Nat} (hb : b < S 3) : f_X13_boatAtRank_L22 v (nI b) K (nI 0) (nI 0) = some (nI (zz_rk S b)) := by
  have h4 := ib.2.1
  have hfb := zz_fare_le hB ib hb
  have hv3 : v 3 = nI (S 3) := hM 3 (by decide)
  refine zz_for0 (fun K i (r : Int32) => f_X13_boatAtRank_L22 v (nI b) K r (nI i)) (S 3) (fun i r => r = nI (zz_sm (zz_rkq S b) i)) (fun z => z = some (nI (zz_rk S b))) ?_ ?_ K (nI 0) (by omega) rfl
  · intro k r h
    show f_X13_boatAtRank_L22 v (nI b) (k + 1) r (nI (S 3)) = _
    rw [f_X13_boatAtRank_L22, hv3, if_pos (nI_le (Nat.le_refl _) (by omega)), h]
    rfl
  · intro k i r hi h ih
    have hfi := zz_fare_le hB ib hi
    show f_X13_boatAtRank_L22 v (nI b) (k + 1) r (nI i) = _
    have hst : zz_sm (zz_rkq S b) (i + 1) = zz_sm (zz_rkq S b) i + zz_rkq S b i := rfl
    unfold zz_rkq at hst
    rw [f_X13_boatAtRank_L22, hv3, if_neg (nI_ge hi (by omega)), zm_of3, zz_b, zz_g (by omega) (by decide), zm_of3, zz_b, zz_g (by omega) (by decide), nI_clamp (by omega), nI_clamp (by omega), hM _ (by omega), hM _ (by omega), nI_1, h, nI_1, zz_l0, nI_add]
    by_cases g : S (91 + 4 * b) < S (91 + 4 * i)
    · rw [if_pos (nI_lt g hfi)]
      rw [if_pos (by omega)] at hst
      exact ih _ (congrArg nI hst.symm)
    · rw [if_neg (nI_nlt (by omega) (by omega)), zz_b, zz_g (by omega) (by decide), zz_b, zz_g (by omega) (by decide), nI_clamp (by omega), nI_clamp (by omega), hM _ (by omega), hM _ (by omega)]
      by_cases e : S (91 + 4 * i) = S (91 + 4 * b)
      · rw [if_pos (congrArg nI e)]
        by_cases q : b ≤ i
        · rw [if_pos (nI_le q (by omega))]
          rw [if_neg (by omega)] at hst
          exact ih _ (congrArg nI hst.symm)
        · rw [if_neg (nI_ge (by omega) (by omega))]
          rw [if_pos (by omega)] at hst
          exact ih _ (congrArg nI hst.symm)
      · rw [if_neg (zz_ne e (by omega) (by omega))]
        rw [if_neg (by omega)] at hst
        exact ih _ (congrArg nI hst.symm)
theorem zp_rank (hB : B ≤ 1000000) (ib : zz_Ib B S) (pb : zz_Pb S nu ce fa fc nx to re me) (hM : zz_Pm S v) (hK : 10 ≤ K) (x : Int32) : ∃ cc cv r e, f_X12_boatAtRank K nu fa fc x = some (cc, cv) ∧ f_X13_boatAtRank K v x = some (r, e) ∧ zz_w2 cc cv r e := by
  obtain ⟨p1, p2, p3, rfl, p5, p6, p7, p8⟩ := pb
  have h4 := ib.2.1
  have hv3 : v 3 = nI (S 3) := hM 3 (by decide)
  have hc : f_X3_placeOfRank K fa (nI (S 3)) x = some (zz_o (zz_fi (zz_rkp S x) (S 3))) := by
    refine zz_for0 (fun K' i (_ : Unit) => f_X3_placeOfRank_L2 K fa (nI (S 3)) x K' (nI i)) (S 3) (fun i _ => zz_fi (zz_rkp S x) i = none) (fun z => z = some (zz_o (zz_fi (zz_rkp S x) (S 3)))) ?_ ?_ K () (by omega) rfl
    · intro k _ h
      show f_X3_placeOfRank_L2 K fa (nI (S 3)) x (k + 1) (nI (S 3)) = _
      rw [f_X3_placeOfRank_L2, if_pos (nI_le (Nat.le_refl _) (by omega)), h]
      rfl
    · intro k i _ hi h ih
      show f_X3_placeOfRank_L2 K fa (nI (S 3)) x (k + 1) (nI i) = _
      rw [f_X3_placeOfRank_L2, if_neg (nI_ge hi (by omega)), zc_rankOf hB ib p3 hK hi, zz_b]
      by_cases hp : nI (zz_rk S i) = x
      · rw [if_pos hp, zz_fi_y h (decide_eq_true hp) hi]
        rfl
      · rw [if_neg hp, nI_1]
        exact ih () (zz_fi_n h (decide_eq_false hp))
  have hm : f_X13_boatAtRank K v x = some (match zz_fi (zz_rkp S x) (S 3) with
      | some b => (nI (S (88 + 4 * b)), 0)
      | none => (0, 1)) := by
    refine zz_for0 (fun K' i (_ : Unit) => f_X13_boatAtRank_L7 K 0 v x K' (nI i)) (S 3) (fun i _ => zz_fi (zz_rkp S x) i = none) (fun z => z = some (match zz_fi (zz_rkp S x) (S 3) with
      | some b => (nI (S (88 + 4 * b)), 0)
      | none => (0, 1))) ?_ ?_ K () (by omega) rfl
    · intro k _ h
      show f_X13_boatAtRank_L7 K 0 v x (k + 1) (nI (S 3)) = _
      rw [f_X13_boatAtRank_L7, hv3, if_pos (nI_le (Nat.le_refl _) (by omega)), h]
      rfl
    · intro k i _ hi h ih
      show f_X13_boatAtRank_L7 K 0 v x (k + 1) (nI i) = _
      rw [f_X13_boatAtRank_L7, hv3, if_neg (nI_ge hi (by omega))]
      show ((f_X13_boatAtRank_L22 v (nI i) K (nI 0) (nI 0)).bind _) = _
      rw [zm_rankOf hB ib hM hK hi, zz_b]
      by_cases hp : nI (zz_rk S i) = x
      · rw [if_pos hp, zz_fi_y h (decide_eq_true hp) hi, zm_of0, zz_b, zz_g (by omega) (by decide), nI_clamp (by omega), hM _ (by omega)]
      · rw [if_neg hp, nI_1]
        exact ih () (zz_fi_n h (decide_eq_false hp))
  cases hf : zz_fi (zz_rkp S x) (S 3) with
  | none =>
    rw [hf] at hc hm
    refine ⟨2, 0, 0, 1, ?_, hm, Or.inr ⟨rfl, rfl⟩⟩
    rw [f_X12_boatAtRank, hc]
    rfl
  | some b =>
    obtain ⟨hb, _, _⟩ := zz_fi_some hf
    rw [hf] at hc hm
    rw [zz_os] at hc
    refine ⟨0, nI (S (88 + 4 * b)), nI (S (88 + 4 * b)), 0, ?_, hm, Or.inl ⟨rfl, rfl, rfl⟩⟩
    rw [f_X12_boatAtRank, hc, zz_b, if_neg (zz_n1 (by omega)), zz_g (by omega) (by decide), nI_clamp (by omega), p1 b hb]
theorem zc_present (p3 : ∀ b, b < S 3 → fa b = nI (S (91 + 4 * b))) (h4 : S 3 ≤ 4) (hK : 10 ≤ K) : f_X3_presentFares K fa (nI (S 3)) = some (nI (zz_fs S)) := by
  have hL : f_X3_presentFares_L4 fa (nI (S 3)) K (nI 0) (nI 0) = some (nI (zz_fs S)) := by
    refine zz_for0 (fun K i (r : Int32) => f_X3_presentFares_L4 fa (nI (S 3)) K r (nI i)) (S 3) (fun i r => r = nI (zz_sm (fun b => S (91 + 4 * b)) i)) (fun z => z = some (nI (zz_fs S))) ?_ ?_ K (nI 0) (by omega) rfl
    · intro k r h
      show f_X3_presentFares_L4 fa (nI (S 3)) (k + 1) r (nI (S 3)) = _
      rw [f_X3_presentFares_L4, if_pos (nI_le (Nat.le_refl _) (by omega)), h]
      rfl
    · intro k i r hi h ih
      show f_X3_presentFares_L4 fa (nI (S 3)) (k + 1) r (nI i) = _
      rw [f_X3_presentFares_L4, if_neg (nI_ge hi (by omega)), zz_g (by omega) (by decide), nI_clamp (by omega), p3 i hi, h, nI_add, nI_1]
      exact ih _ rfl
  rw [f_X3_presentFares]
  show (f_X3_presentFares_L4 fa (nI (S 3)) K (nI 0) (nI 0)).bind _ = _
  rw [hL]
  rfl
theorem zm_fares (hM : zz_Pm S v) (h4 : S 3 ≤ 4) (hK : 10 ≤ K) : f_X13_fares K v = some (nI (zz_fs S)) := by
  have hv3 : v 3 = nI (S 3) := hM 3 (by decide)
  have hL : f_X13_fares_L4 v K (nI 0) (nI 0) = some (nI (zz_fs S)) := by
    refine zz_for0 (fun K i (r : Int32) => f_X13_fares_L4 v K r (nI i)) (S 3) (fun i r => r = nI (zz_sm (fun b => S (91 + 4 * b)) i)) (fun z => z = some (nI (zz_fs S))) ?_ ?_ K (nI 0) (by omega) rfl
    · intro k r h
      show f_X13_fares_L4 v (k + 1) r (nI (S 3)) = _
      rw [f_X13_fares_L4, hv3, if_pos (nI_le (Nat.le_refl _) (by omega)), h]
      rfl
    · intro k i r hi h ih
      show f_X13_fares_L4 v (k + 1) r (nI i) = _
      rw [f_X13_fares_L4, hv3, if_neg (nI_ge hi (by omega)), zm_of3, zz_b, zz_g (by omega) (by decide), nI_clamp (by omega), hM _ (by omega), h, nI_add, nI_1]
      exact ih _ rfl
  rw [f_X13_fares]
  show (f_X13_fares_L4 v K (nI 0) (nI 0)).bind _ = _
  rw [hL]
  rfl
theorem zc_exPlan_n {x : Int32} (h : f_X12_isPlan x = some 0) : f_X12_existingPlan x = some (1, 0) := by
  rw [f_X12_existingPlan, h]
  rfl
theorem zc_exPlan_y {x : Int32} (h : f_X12_isPlan x = some 1) : f_X12_existingPlan x = some (0, x) := by
  rw [f_X12_existingPlan, h, zz_b, if_neg (by decide)]
theorem zp_redLen (ip : zz_Ip S) (pp : zz_Pp S mo le) (hM : zz_Pm S v) (hK : 100 ≤ K) (sp scratch : Nat → Int32) (x : Int32) : ∃ cc cv s r e s', f_X12_reducedLength K mo le sp x = some (cc, cv, s) ∧ f_X13_reducedLength K v scratch x = some (r, e, s') ∧ ((cc = 0 ∧ e = 0 ∧ cv = r) ∨ (cc = 1 ∧ e = 1)) := by
  rcases zz_plan x with ⟨h1, h2⟩ | ⟨p, hp, rfl, h1, h2⟩
  · refine ⟨1, 0, sp, 0, 1, scratch, ?_, ?_, Or.inr ⟨rfl, rfl⟩⟩
    · rw [f_X12_reducedLength, zc_exPlan_n h1]
      rfl
    · rw [f_X13_reducedLength, h2]
      rfl
  · have hl := ip.1 p hp
    have h4 : ∀ k, k < S (104 + p) → S (110 + 20 * p + k) < 4 := fun k hk => ip.2 p k hp hk
    obtain ⟨w, hw, _⟩ := zm_left (scratch := scratch) (K := K) hp hl hK hM rfl h4
    obtain ⟨s, hs⟩ := zc_pairs (mo := mo) (le := le) (K := K) (f := fun k => S (110 + 20 * p + k)) hp hl hK (pp.1 p hp) (fun k hk => pp.2 p k hp hk) h4 sp
    refine ⟨0, nI (zz_rd (fun k => S (110 + 20 * p + k)) (S (104 + p))).1, s, nI (zz_rd (fun k => S (110 + 20 * p + k)) (S (104 + p))).1, 0, w, ?_, ?_, Or.inl ⟨rfl, rfl, rfl⟩⟩
    · rw [f_X12_reducedLength, zc_exPlan_y h1, zz_b, if_pos rfl, hs]
      rfl
    · rw [f_X13_reducedLength, h2, zz_b, if_neg (by decide), hw]
      rfl
theorem zp_planLen (ip : zz_Ip S) (pp : zz_Pp S mo le) (hM : zz_Pm S v) (x : Int32) : ∃ cc cv r e, f_X12_planLength le x = some (cc, cv) ∧ f_X13_planLength v x = some (r, e) ∧ ((cc = 0 ∧ e = 0 ∧ cv = r) ∨ (cc = 1 ∧ e = 1)) := by
  rcases zz_plan x with ⟨h1, h2⟩ | ⟨p, hp, rfl, h1, h2⟩
  · refine ⟨1, 0, 0, 1, ?_, ?_, Or.inr ⟨rfl, rfl⟩⟩
    · rw [f_X12_planLength, zc_exPlan_n h1]
      rfl
    · rw [f_X13_planLength, h2]
      rfl
  · refine ⟨0, nI (S (104 + p)), nI (S (104 + p)), 0, ?_, ?_, Or.inl ⟨rfl, rfl, rfl⟩⟩
    · rw [f_X12_planLength, zc_exPlan_y h1, zz_b, if_pos rfl, zz_g hp (by decide), nI_clamp (by omega), pp.1 p hp]
    · rw [f_X13_planLength, h2, zz_b, if_neg (by decide), zz_l104, nI_add, zz_g (by omega) (by decide), nI_clamp (by omega), hM _ (by omega)]
theorem zp_moveAt (ip : zz_Ip S) (pp : zz_Pp S mo le) (hM : zz_Pm S v) (x y : Int32) : ∃ cc cv r e, f_X12_moveAt mo le x y = some (cc, cv) ∧ f_X13_moveAt v x y = some (r, e) ∧ ((cc = 0 ∧ e = 0 ∧ cv = r) ∨ (cc = 1 ∧ e = 1) ∨ (cc = 2 ∧ e = 2)) := by
  rcases zz_plan x with ⟨h1, h2⟩ | ⟨p, hp, rfl, h1, h2⟩
  · refine ⟨1, 0, 97, 1, ?_, ?_, Or.inr (Or.inl ⟨rfl, rfl⟩)⟩
    · rw [f_X12_moveAt, zc_exPlan_n h1]
      rfl
    · rw [f_X13_moveAt, h2]
      rfl
  · have hl := ip.1 p hp
    have hml : f_X13_moveAt v (nI p) y = (f_X13_isIn y 0 (nI (S (104 + p)) - 1)).bind fun q25 => if q25 = 0 then some (97, 2) else (f_X13_at (nI p) y).bind fun q52 => mm_g (mm_ck q52 238) ((f_X13_letter (v q52.toNatClampNeg)).bind fun q56 => some ((q56.toUInt32 % 65536).toInt32, 0)) := by
      rw [f_X13_moveAt, h2, zz_b, if_neg (by decide), zz_l104, nI_add, zz_g (by omega) (by decide), nI_clamp (by omega), hM _ (by omega)]
    rcases zm_isIn y (n := S (104 + p)) (by omega) with ⟨h, h3⟩ | ⟨k, hk, rfl, h⟩
    · refine ⟨2, 0, 97, 2, ?_, ?_, Or.inr (Or.inr ⟨rfl, rfl⟩)⟩
      · rw [f_X12_moveAt, zc_exPlan_y h1, zz_b, if_pos rfl]
        rcases h3 with h3 | h3
        · rw [if_pos h3.1]
        · rw [if_neg h3.1, zz_g hp (by decide), nI_clamp (by omega), pp.1 p hp, if_neg h3.2.2.2]
      · rw [hml, h]
        rfl
    · have hm4 := ip.2 p k hp hk
      obtain ⟨l1, l2⟩ := zz_L_lt _ hm4
      refine ⟨0, nI (zz_L (S (110 + 20 * p + k))), nI (zz_L (S (110 + 20 * p + k))), 0, ?_, ?_, Or.inl ⟨rfl, rfl, rfl⟩⟩
      · rw [f_X12_moveAt, zc_exPlan_y h1, zz_b, if_pos rfl, if_neg (nI_pos (by omega)), zz_g hp (by decide), nI_clamp (by omega), pp.1 p hp, if_pos (nI_lt hk (by omega)), zc_moveIn hp (by omega) (pp.2 p k hp hk), zz_b, zc_letter _ hm4, zz_b, zz_d (zz_vc (by omega))]
      · rw [hml, h, zz_b, if_neg (by decide), zm_at, zz_b, zz_g (by omega) (by decide), nI_clamp (by omega), hM _ (by omega), zm_letter _ hm4, zz_b, zz_ch (by omega)]
theorem zp_areMirr (ip : zz_Ip S) (pp : zz_Pp S mo le) (hM : zz_Pm S v) (hK : 100 ≤ K) (x y : Int32) : ∃ cc cv r e, f_X12_areMirrored K mo le x y = some (cc, cv) ∧ f_X13_areMirrored K v x y = some (r, e) ∧ ((cc = 0 ∧ e = 0 ∧ cv = r ∧ (r = 0 ∨ r = 1)) ∨ (cc = 1 ∧ e = 1)) := by
  rcases zz_plan x with ⟨h1, h2⟩ | ⟨p, hp, rfl, h1, h2⟩
  · refine ⟨1, 0, 0, 1, ?_, ?_, Or.inr ⟨rfl, rfl⟩⟩
    · rw [f_X12_areMirrored, zc_exPlan_n h1]
      rfl
    · rw [f_X13_areMirrored, h2]
      rfl
  · rcases zz_plan y with ⟨g1, g2⟩ | ⟨t, ht, rfl, g1, g2⟩
    · refine ⟨1, 0, 0, 1, ?_, ?_, Or.inr ⟨rfl, rfl⟩⟩
      · rw [f_X12_areMirrored, zc_exPlan_y h1, zz_b, if_pos rfl, zc_exPlan_n g1]
        rfl
      · rw [f_X13_areMirrored, h2, zz_b, if_neg (by decide), g2]
        rfl
    · have hl := ip.1 p hp
      have hl2 := ip.1 t ht
      have hcl : f_X12_areMirrored K mo le (nI p) (nI t) = (f_X8_mirrorEachOther K mo le (nI p) (nI t)).bind fun q15 => mm_g (decide (q15 = 0 ∨ q15 = 1)) (some (0, q15)) := by
        rw [f_X12_areMirrored, zc_exPlan_y h1, zz_b, if_pos rfl, zc_exPlan_y g1, zz_b, if_pos rfl]
      have hml : f_X13_areMirrored K v (nI p) (nI t) = if nI (S (104 + p)) = nI (S (104 + t)) then f_X13_areMirrored_L55 0 v (nI p) (nI t) K 0 else some (0, 0) := by
        rw [f_X13_areMirrored, h2, zz_b, if_neg (by decide), g2, zz_b, if_neg (by decide), zz_l104, nI_add, nI_add, zz_g (by omega) (by decide), zz_g (by omega) (by decide), nI_clamp (by omega), nI_clamp (by omega), hM _ (by omega), hM _ (by omega)]
      by_cases e : S (104 + p) = S (104 + t)
      · have hm : ∃ z, f_X8_mirrorEachOther_L19 mo le (nI p) (nI t) K (nI 0) = some (zz_B z) ∧ f_X13_areMirrored_L55 0 v (nI p) (nI t) K 0 = some (zz_B z, 0) := by
          have hc1 : f_X8_mirrorEachOther_L19 mo le (nI p) (nI t) K (nI 0) = some (zz_B (!(zz_an (fun k => decide (S (110 + 20 * p + k) ≠ zz_mi (S (110 + 20 * t + k)))) (S (104 + p))))) := by
            refine zz_for0 (fun K i (_ : Unit) => f_X8_mirrorEachOther_L19 mo le (nI p) (nI t) K (nI i)) (S (104 + p)) (fun i _ => zz_an (fun k => decide (S (110 + 20 * p + k) ≠ zz_mi (S (110 + 20 * t + k)))) i = false) (fun z => z = some (zz_B (!(zz_an (fun k => decide (S (110 + 20 * p + k) ≠ zz_mi (S (110 + 20 * t + k)))) (S (104 + p)))))) ?_ ?_ K () (by omega) rfl
            · intro k _ h
              show f_X8_mirrorEachOther_L19 mo le (nI p) (nI t) (k + 1) (nI (S (104 + p))) = _
              rw [f_X8_mirrorEachOther_L19, zz_g hp (by decide), nI_clamp (by omega), pp.1 p hp, if_pos (nI_le (Nat.le_refl _) (by omega)), h]
              rfl
            · intro k i _ hi h ih
              have m1 := ip.2 p i hp hi
              have m2 := ip.2 t i ht (by omega)
              have m3 := zz_mi_lt _ m2
              show f_X8_mirrorEachOther_L19 mo le (nI p) (nI t) (k + 1) (nI i) = _
              rw [f_X8_mirrorEachOther_L19, zz_g hp (by decide), nI_clamp (by omega), pp.1 p hp, if_neg (nI_ge hi (by omega)), zc_moveIn hp (by omega) (pp.2 p i hp hi), zz_b, zc_moveIn ht (by omega) (pp.2 t i ht (by omega)), zz_b, zc_mirrored _ m2, zz_b]
              by_cases q : S (110 + 20 * p + i) = zz_mi (S (110 + 20 * t + i))
              · rw [if_pos (congrArg nI q), nI_1]
                exact ih () (zz_an_n h (decide_eq_false (fun z => z q)))
              · rw [if_neg (zz_ne q (by omega) (by omega)), zz_an_y (n := i) (decide_eq_true q) hi]
                rfl
          have hc2 : f_X13_areMirrored_L55 0 v (nI p) (nI t) K 0 = some (zz_B (!(zz_an (fun k => decide (S (110 + 20 * p + k) ≠ zz_mi (S (110 + 20 * t + k)))) (S (104 + p)))), 0) := by
            refine zz_for0 (fun K i (_ : Unit) => f_X13_areMirrored_L55 0 v (nI p) (nI t) K (nI i)) (S (104 + p)) (fun i _ => zz_an (fun k => decide (S (110 + 20 * p + k) ≠ zz_mi (S (110 + 20 * t + k)))) i = false) (fun z => z = some (zz_B (!(zz_an (fun k => decide (S (110 + 20 * p + k) ≠ zz_mi (S (110 + 20 * t + k)))) (S (104 + p)))), 0)) ?_ ?_ K () (by omega) rfl
            · intro k _ h
              show f_X13_areMirrored_L55 0 v (nI p) (nI t) (k + 1) (nI (S (104 + p))) = _
              rw [f_X13_areMirrored_L55, zz_l104, nI_add, zz_g (by omega) (by decide), nI_clamp (by omega), hM _ (by omega), if_pos (nI_le (Nat.le_refl _) (by omega)), h]
              rfl
            · intro k i _ hi h ih
              have m1 := ip.2 p i hp hi
              have m2 := ip.2 t i ht (by omega)
              have m3 := zz_mi_lt _ m2
              show f_X13_areMirrored_L55 0 v (nI p) (nI t) (k + 1) (nI i) = _
              rw [f_X13_areMirrored_L55, zz_l104, nI_add, zz_g (by omega) (by decide), nI_clamp (by omega), hM _ (by omega), if_neg (nI_ge hi (by omega)), zm_at, zz_b, zz_g (by omega) (by decide), zm_at, zz_b, zz_g (by omega) (by decide), nI_clamp (by omega), nI_clamp (by omega), hM _ (by omega), hM _ (by omega), zm_mirrored _ m2, zz_b]
              by_cases q : S (110 + 20 * p + i) = zz_mi (S (110 + 20 * t + i))
              · rw [if_pos (congrArg nI q), nI_1]
                exact ih () (zz_an_n h (decide_eq_false (fun z => z q)))
              · rw [if_neg (zz_ne q (by omega) (by omega)), zz_an_y (n := i) (decide_eq_true q) hi]
                rfl
          exact ⟨_, hc1, hc2⟩
        obtain ⟨z, z1, z2⟩ := hm
        refine ⟨0, zz_B z, zz_B z, 0, ?_, ?_, Or.inl ⟨rfl, rfl, rfl, by cases z <;> decide⟩⟩
        · rw [hcl, f_X8_mirrorEachOther, zz_g hp (by decide), zz_g ht (by decide), nI_clamp (by omega), nI_clamp (by omega), pp.1 p hp, pp.1 t ht, if_pos (congrArg nI e)]
          show (f_X8_mirrorEachOther_L19 mo le (nI p) (nI t) K (nI 0)).bind _ = _
          rw [z1, zz_b, zz_d (by cases z <;> decide)]
        · rw [hml, if_pos (congrArg nI e), z2]
      · refine ⟨0, 0, 0, 0, ?_, ?_, Or.inl ⟨rfl, rfl, rfl, Or.inl rfl⟩⟩
        · rw [hcl, f_X8_mirrorEachOther, zz_g hp (by decide), zz_g ht (by decide), nI_clamp (by omega), nI_clamp (by omega), pp.1 p hp, pp.1 t ht, if_neg (zz_ne e (by omega) (by omega)), zz_b, zz_d (Or.inl rfl)]
        · rw [hml, if_neg (zz_ne e (by omega) (by omega))]
theorem zp_blocked (hs : ∀ c, c < 81 → st c = nI (S (7 + c))) (ir : zz_Ir S) (ib : zz_Ib B S) (ip : zz_Ip S) (pb : zz_Pb S nu ce fa fc nx to re me) (pp : zz_Pp S mo le) (hM : zz_Pm S v) (hK : 100 ≤ K) (tx ty tm x y : Int32) : ∃ cc cv r e tx' ty' tm', f_X12_blockedMove K st nu ce fc mo le x y = some (cc, cv) ∧ f_X13_blockedMove K v tx ty tm x y = some (r, e, tx', ty', tm') ∧ zz_wo cc cv r e := by
  obtain ⟨p1, p2, p3, rfl, p5, p6, p7, p8⟩ := pb
  have h4 := ib.2.1
  have hx : ∀ b, b < S 3 → zz_c S b < 81 := fun b hb => zz_Ib_c ib hb
  have hfind := zm_find (K := K) hM h4 (by omega) x
  cases hf : zz_fd S x with
  | none =>
    rw [hf, zz_on] at hfind
    refine ⟨2, 0, 0, 1, tx, ty, tm, ?_, ?_, Or.inr (Or.inl ⟨rfl, rfl⟩)⟩
    · rw [f_X12_blockedMove, zc_place_n p1 h4 (by omega) hf, zz_b, if_neg (show ¬ ((2 : Nat) = 0) by decide)]
    · rw [f_X13_blockedMove, hfind, zz_b, if_neg (by decide)]
  | some b =>
    obtain ⟨hb, _, _⟩ := zz_fi_some hf
    rw [hf, zz_os] at hfind
    rcases zz_plan y with ⟨h1, h2⟩ | ⟨p, hp, rfl, h1, h2⟩
    · refine ⟨1, 0, 0, 2, tx, ty, tm, ?_, ?_, Or.inr (Or.inr ⟨rfl, rfl⟩)⟩
      · rw [f_X12_blockedMove, zc_place_y p1 h4 (by omega) hf, zz_b, if_pos rfl, zc_exPlan_n h1, zz_b, if_neg (show ¬ ((1 : Nat) = 0) by decide)]
      · rw [f_X13_blockedMove, hfind, zz_b, if_pos (nI_pos' (by omega)), h2, zz_b, if_pos rfl]
    · have hl := ip.1 p hp
      have hm4 : ∀ k, k < S (104 + p) → S (110 + 20 * p + k) < 4 := fun k hk => ip.2 p k hp hk
      have hblk := zc_blocked (K := K) (mo := mo) (le := le) hs ir.2.2 hx p2 h4 (by omega) hb hp hl (pp.1 p hp) (fun k hk => pp.2 p k hp hk) hm4
      obtain ⟨ba, bb, bm, hbar, _⟩ := zm_bars (K := K) hM ir.2.2 (fun b hb => ⟨(ib.2.2.2.2 b hb).1, (ib.2.2.2.2 b hb).2.1⟩) h4 (by omega) hb hp hl rfl hm4
      refine ⟨0, zz_o (zz_fi (zz_bk S b (zz_c S b) p) (S (104 + p))), zz_o (zz_fi (zz_bk S b (zz_c S b) p) (S (104 + p))), 0, ba, bb, bm, ?_, ?_, Or.inl ⟨rfl, rfl, rfl⟩⟩
      · rw [f_X12_blockedMove, zc_place_y p1 h4 (by omega) hf, zz_b, if_pos rfl, zc_exPlan_y h1, zz_b, if_pos rfl, hblk]
        rfl
      · rw [f_X13_blockedMove, hfind, zz_b, if_pos (nI_pos' (by omega)), h2, zz_b, if_neg (by decide), zz_b, hbar]
        rfl
end ZA2
