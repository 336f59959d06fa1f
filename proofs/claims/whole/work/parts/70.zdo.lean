-- plans written anew, and what one command does
section ZDO
variable {S T U : Nat → Nat} {B K n : Nat} {t : Nat → Nat} {mo le sg tx : Nat → Int32} {v scratch : Nat → Int32} {M : mm_MV}
theorem zz_Er_t (h : zz_Er S T) (g : zz_Er T U) : zz_Er S U := ⟨g.1.trans h.1, fun k hk => (g.2 k hk).trans (h.2 k hk)⟩
theorem zz_Eb_t (h : zz_Eb S T) (g : zz_Eb T U) : zz_Eb S U := ⟨g.1.trans h.1, g.2.1.trans h.2.1, g.2.2.1.trans h.2.2.1, g.2.2.2.1.trans h.2.2.2.1, fun k hk => (g.2.2.2.2 k hk).trans (h.2.2.2.2 k hk)⟩
theorem zz_El_t (h : zz_El S T) (g : zz_El T U) : zz_El S U := ⟨g.1.trans h.1, fun k hk => (g.2 k hk).trans (h.2 k hk)⟩
theorem zz_Ef_t (h : zz_Ef S T) (g : zz_Ef T U) : zz_Ef S U := Eq.trans g h
theorem zc_signAt (h : zz_Tx n t sg tx) {k : Nat} (hk : k < n) : f_X10_signAt sg (nI n) (nI k) = some (nI (t k)) := by
  obtain ⟨h1, h2⟩ := h
  obtain ⟨a, b, c, d⟩ := h2 k hk
  rw [f_X10_signAt, if_neg (nI_pos (by omega)), if_neg (nI_ge hk (by omega)), zz_g (by omega) (by decide), nI_clamp (by omega), c, zz_d (zz_vc (by omega))]
theorem zc_signAt_n (h : zz_Tx n t sg tx) {k : Nat} (hk : n ≤ k) (hk2 : k < 2 ^ 31) : f_X10_signAt sg (nI n) (nI k) = some 0 := by
  rw [f_X10_signAt, if_neg (nI_pos hk2), if_pos (nI_le hk hk2)]
theorem zm_sign (h : zz_Tx n t sg tx) {k : Nat} (hk : k < n) : f_X13_sign tx (nI k) (nI n) = some (nI (t k)) := by
  obtain ⟨h1, h2⟩ := h
  obtain ⟨a, b, c, d⟩ := h2 k hk
  rw [f_X13_sign, if_neg (nI_ge hk (by omega)), zz_g (by omega) (by decide), nI_clamp (by omega), d]
theorem zm_sign_n {k : Nat} (hk : n ≤ k) (hk2 : k < 2 ^ 31) : f_X13_sign tx (nI k) (nI n) = some (-1) := by
  rw [f_X13_sign, if_pos (nI_le hk hk2)]
/-- where a run of moves ends -/
def zz_em (t : Nat → Nat) (n i : Nat) : Nat := i + (zz_fi (fun j => decide (zz_mv (nI (t (i + j))) = none)) (n - i)).getD (n - i)
theorem zz_em_s {i : Nat} (hi : i ≤ n) : i ≤ zz_em t n i ∧ zz_em t n i ≤ n ∧ (∀ j, i + j < zz_em t n i → zz_mv (nI (t (i + j))) ≠ none) ∧ (zz_em t n i = n ∨ (zz_em t n i < n ∧ zz_mv (nI (t (zz_em t n i))) = none)) := by
  unfold zz_em
  cases e : zz_fi (fun j => decide (zz_mv (nI (t (i + j))) = none)) (n - i) with
  | none =>
    show i ≤ i + (n - i) ∧ i + (n - i) ≤ n ∧ (∀ j, i + j < i + (n - i) → _) ∧ (i + (n - i) = n ∨ _)
    refine ⟨by omega, by omega, fun j hj => ?_, Or.inl (by omega)⟩
    exact of_decide_eq_false (zz_fi_none e j (by omega))
  | some r =>
    obtain ⟨h1, h2, h3⟩ := zz_fi_some e
    show i ≤ i + r ∧ i + r ≤ n ∧ (∀ j, i + j < i + r → _) ∧ (i + r = n ∨ (i + r < n ∧ _))
    refine ⟨by omega, by omega, fun j hj => ?_, Or.inr ⟨by omega, of_decide_eq_true h2⟩⟩
    exact of_decide_eq_false (h3 j (by omega))
theorem zz_o_n {q : Option Nat} (h : q ≠ none) (hb : ∀ b, q = some b → b < 4) : ¬ zz_o q = -1 ∧ ¬ zz_o q < 0 := by
  cases q with
  | none => exact absurd rfl h
  | some b =>
    have := hb b rfl
    exact ⟨zz_n1 (by omega), nI_pos (by omega)⟩
theorem zz_mv_4 {x : Int32} {b : Nat} (h : zz_mv x = some b) : b < 4 := by
  unfold zz_mv at h
  split at h
  · cases h; decide
  · split at h
    · cases h; decide
    · split at h
      · cases h; decide
      · split at h
        · cases h; decide
        · cases h
theorem zc_endMoves (h : zz_Tx n t sg tx) (hK : 100 ≤ K) {i : Nat} (hi : i ≤ n) : f_X10_endOfMoves K sg (nI n) (nI i) = some (nI (zz_em t n i)) := by
  obtain ⟨e1, e2, e3, e4⟩ := zz_em_s (t := t) hi
  have hn := h.1
  have hL : f_X10_endOfMoves_L2 K sg (nI n) K (nI i) = some (nI (zz_em t n i)) := by
    refine zz_for0 (fun K' j (_ : Unit) => f_X10_endOfMoves_L2 K sg (nI n) K' (nI (i + j))) (zz_em t n i - i) (fun _ _ => True) (fun z => z = some (nI (zz_em t n i))) ?_ ?_ K () (by omega) trivial
    · intro k _ _
      show f_X10_endOfMoves_L2 K sg (nI n) (k + 1) (nI (i + (zz_em t n i - i))) = _
      rw [show i + (zz_em t n i - i) = zz_em t n i by omega, f_X10_endOfMoves_L2]
      rcases e4 with q | ⟨q1, q2⟩
      · rw [if_pos (nI_le (by omega) (by omega))]
      · rw [if_neg (nI_ge q1 (by omega)), zc_signAt h q1, zz_b, zc_moveOf (by omega), zz_b, q2, zz_on, if_pos rfl]
    · intro k j _ hj _ ih
      show f_X10_endOfMoves_L2 K sg (nI n) (k + 1) (nI (i + j)) = _
      have := (zz_o_n (e3 j (by omega)) (fun b hb => zz_mv_4 hb)).1
      rw [f_X10_endOfMoves_L2, if_neg (nI_ge (by omega) (by omega)), zc_signAt h (by omega), zz_b, zc_moveOf (by omega), zz_b, if_neg this, nI_1]
      exact ih () trivial
  rw [f_X10_endOfMoves, hL]
  rfl
theorem zm_endMoves (h : zz_Tx n t sg tx) (hK : 100 ≤ K) {i : Nat} (hi : i ≤ n) : f_X13_command_L112 tx (nI n) 0 3 K (nI i) = some (nI (zz_em t n i)) := by
  obtain ⟨e1, e2, e3, e4⟩ := zz_em_s (t := t) hi
  have hn := h.1
  refine zz_for0 (fun K' j (_ : Unit) => f_X13_command_L112 tx (nI n) 0 3 K' (nI (i + j))) (zz_em t n i - i) (fun _ _ => True) (fun z => z = some (nI (zz_em t n i))) ?_ ?_ K () (by omega) trivial
  · intro k _ _
    show f_X13_command_L112 tx (nI n) 0 3 (k + 1) (nI (i + (zz_em t n i - i))) = _
    rw [show i + (zz_em t n i - i) = zz_em t n i by omega, f_X13_command_L112, if_pos rfl, if_pos rfl]
    rcases e4 with q | ⟨q1, q2⟩
    · rw [zm_sign_n (by omega) (by omega), zz_b, zm_move, zz_b, if_pos (by decide)]
    · rw [zm_sign h q1, zz_b, zm_move, zz_b, q2, zz_on, if_pos (by decide)]
  · intro k j _ hj _ ih
    show f_X13_command_L112 tx (nI n) 0 3 (k + 1) (nI (i + j)) = _
    have := (zz_o_n (e3 j (by omega)) (fun b hb => zz_mv_4 hb)).2
    rw [f_X13_command_L112, if_pos rfl, if_pos rfl, zm_sign h (by omega), zz_b, zm_move, zz_b, if_neg this, nI_1]
    exact ih () trivial
theorem zp_stepsL (h : zz_Tx n t sg tx) (hK : 2000 ≤ K) {E : Nat} (hE : E ≤ n) (x : Int32) : ∀ d i K1 K2 (S : Nat → Nat) (mo le v : Nat → Int32) (a : Nat), i + d = E → d < K1 → d < K2 → a < 2 ^ 31 → zz_Ip S → zz_Pp S mo le → zz_Pm S v →
    (∃ c r e mo' le' v', f_X12_rewritePlan_L25 K sg (nI n) x (nI E) K1 (nI a) (nI i) mo le = some (c, mo', le') ∧ f_X13_types_L9 tx (nI E) x K2 (nI a) (nI i) 0 v = some (r, e, v') ∧ ¬ 0 ≤ c ∧ ¬ e = 0) ∨
    (∃ b T mo' le' v', b < 2 ^ 31 ∧ f_X12_rewritePlan_L25 K sg (nI n) x (nI E) K1 (nI a) (nI i) mo le = some (nI b, mo', le') ∧ f_X13_types_L9 tx (nI E) x K2 (nI a) (nI i) 0 v = some (nI b, 0, v') ∧ zz_Ip T ∧ (zz_Er S T ∧ zz_Eb S T ∧ zz_El S T ∧ zz_Ef S T) ∧ zz_Pp T mo' le' ∧ zz_Pm T v') := by
  have hn := h.1
  intro d
  induction d with
  | zero =>
    intro i K1 K2 S mo le v a hi h1 h2 ha ip pp hM
    obtain ⟨K1, rfl, _⟩ := zz_k K1 0 h1
    obtain ⟨K2, rfl, _⟩ := zz_k K2 0 h2
    right
    refine ⟨a, S, mo, le, v, ha, ?_, ?_, ip, ⟨⟨rfl, fun _ _ => rfl⟩, ⟨rfl, rfl, rfl, rfl, fun _ _ => rfl⟩, ⟨rfl, fun _ _ => rfl⟩, rfl⟩, pp, hM⟩
    · rw [f_X12_rewritePlan_L25, if_pos (nI_le (by omega) (by omega))]
    · rw [f_X13_types_L9, if_pos (nI_le (by omega) (by omega))]
  | succ d ih =>
    intro i K1 K2 S mo le v a hi h1 h2 ha ip pp hM
    obtain ⟨K1, rfl, k1⟩ := zz_k K1 (d + 1) h1
    obtain ⟨K2, rfl, k2⟩ := zz_k K2 (d + 1) h2
    obtain ⟨g1, g2, g3, g4⟩ := h.2 i (by omega)
    rw [f_X12_rewritePlan_L25, if_neg (nI_ge (by omega) (by omega)), if_neg (nI_pos ha), zc_signAt h (by omega), zz_b, f_X13_types_L9, if_neg (nI_ge (by omega) (by omega)), if_pos rfl, zz_g (by omega) (by decide), nI_clamp (by omega), g4, zm_move, zz_b, nI_1]
    rcases zp_extend hK ip pp hM x (nI (t i)) with ⟨c, e, r, c1, c2, c3⟩ | ⟨b, T, mo', le', v', b1, b2, b3, b4, b5, b6, b7⟩
    · left
      have hc : c < 0 ∧ ¬ 0 ≤ c ∧ ¬ e = 0 := by
        rcases c3 with ⟨rfl, rfl⟩ | ⟨rfl, rfl⟩ | ⟨rfl, rfl⟩ <;> decide
      obtain ⟨K1, rfl, _⟩ := zz_k K1 d (by omega)
      obtain ⟨K2, rfl, _⟩ := zz_k K2 d (by omega)
      refine ⟨c, r, e, mo, le, v, ?_, ?_, hc.2.1, hc.2.2⟩
      · rw [c1, zz_b, f_X12_rewritePlan_L25]
        by_cases q : E ≤ i + 1
        · rw [if_pos (nI_le q (by omega))]
        · rw [if_neg (nI_ge (by omega) (by omega)), if_pos hc.1]
      · rw [c2, zz_b, f_X13_types_L9]
        by_cases q : E ≤ i + 1
        · rw [if_pos (nI_le q (by omega))]
        · rw [if_neg (nI_ge (by omega) (by omega)), if_neg hc.2.2]
    · rw [b2, zz_b, b3, zz_b]
      rcases ih (i + 1) K1 K2 T mo' le' v' b (by omega) (by omega) (by omega) b1 b4 b6 b7 with q | ⟨b', T', mo2, le2, v2, y1, y2, y3, y4, y5, y6, y7⟩
      · exact Or.inl q
      · right
        exact ⟨b', T', mo2, le2, v2, y1, y2, y3, y4, ⟨zz_Er_t b5.1 y5.1, zz_Eb_t b5.2.1 y5.2.1, zz_El_t b5.2.2.1 y5.2.2.1, zz_Ef_t b5.2.2.2 y5.2.2.2⟩, y6, y7⟩
theorem zp_rewrite (h : zz_Tx n t sg tx) (hK : 2000 ≤ K) (ip : zz_Ip S) (pp : zz_Pp S mo le) (hM : zz_Pm S v) (x : Int32) {i : Nat} (hi : i ≤ n) :
    (∃ c r e mo' le' v', f_X12_rewritePlan K mo le sg (nI n) x (nI i) = some (c, mo', le') ∧ f_X13_types K 0 v tx (nI (zz_em t n i)) x (nI i) = some (r, e, v') ∧ ¬ 0 ≤ c ∧ ¬ e = 0) ∨
    (∃ b T mo' le' v', b < 2 ^ 31 ∧ f_X12_rewritePlan K mo le sg (nI n) x (nI i) = some (nI b, mo', le') ∧ f_X13_types K 0 v tx (nI (zz_em t n i)) x (nI i) = some (nI b, 0, v') ∧ zz_Ip T ∧ (zz_Er S T ∧ zz_Eb S T ∧ zz_El S T ∧ zz_Ef S T) ∧ zz_Pp T mo' le' ∧ zz_Pm T v') := by
  obtain ⟨e1, e2, e3, e4⟩ := zz_em_s (t := t) hi
  have hn := h.1
  obtain ⟨L, hL, _⟩ := zz_k K 0 (by omega)
  rw [f_X12_rewritePlan, f_X13_types, zc_endMoves h (by omega) hi]
  rcases zp_empty hK ip pp hM x with ⟨c, e, r, c1, c2, c3⟩ | ⟨a, p, v', p1, p2, p3, p4, p5, p6, p7, p8, p9⟩
  · left
    obtain ⟨rfl, rfl⟩ := c3
    refine ⟨-1, r, 1, mo, le, v, ?_, ?_, by decide, by decide⟩
    · rw [c1, zz_b, zz_b]
      show (f_X12_rewritePlan_L25 K sg (nI n) x (nI (zz_em t n i)) K (-1) (nI i) mo le).bind _ = _
      conv => lhs; arg 1; arg 6; rw [hL]
      rw [f_X12_rewritePlan_L25]
      by_cases q : zz_em t n i ≤ i
      · rw [if_pos (nI_le q (by omega))]
        rfl
      · rw [if_neg (nI_ge (by omega) (by omega)), if_pos (by decide)]
        rfl
    · rw [c2, zz_b]
      show (f_X13_types_L9 tx (nI (zz_em t n i)) x K r (nI i) 1 v).bind _ = _
      rw [hL, f_X13_types_L9]
      by_cases q : zz_em t n i ≤ i
      · rw [if_pos (nI_le q (by omega))]
        rfl
      · rw [if_neg (nI_ge (by omega) (by omega)), if_neg (by decide)]
        rfl
  · rw [p4, zz_b, zz_b, p5, zz_b]
    show (∃ c r e mo' le' w, (f_X12_rewritePlan_L25 K sg (nI n) x (nI (zz_em t n i)) K (nI a) (nI i) mo (upd le p (nI 0))).bind _ = some (c, mo', le') ∧ (f_X13_types_L9 tx (nI (zz_em t n i)) x K (nI a) (nI i) 0 v').bind _ = some (r, e, w) ∧ _ ∧ _) ∨ (∃ b T mo' le' w, _ ∧ (f_X12_rewritePlan_L25 K sg (nI n) x (nI (zz_em t n i)) K (nI a) (nI i) mo (upd le p (nI 0))).bind _ = some (nI b, mo', le') ∧ (f_X13_types_L9 tx (nI (zz_em t n i)) x K (nI a) (nI i) 0 v').bind _ = some (nI b, 0, w) ∧ _)
    rcases zp_stepsL h hK e2 x (zz_em t n i - i) i K K (zz_bT S p 0 S) mo (upd le p (nI 0)) v' a (by omega) (by omega) (by omega) p3 p6 p8 p9 with ⟨c, r, e, mo', le', w, c1, c2, c3, c4⟩ | ⟨b', T', mo2, le2, v2, y1, y2, y3, y4, y5, y6, y7⟩
    · left
      exact ⟨c, r, e, mo', le', w, by rw [c1]; rfl, by rw [c2]; rfl, c3, c4⟩
    · right
      exact ⟨b', T', mo2, le2, v2, y1, by rw [y2]; rfl, by rw [y3]; rfl, y4, ⟨zz_Er_t p7.1 y5.1, zz_Eb_t p7.2.1 y5.2.1, zz_El_t p7.2.2.1 y5.2.2.1, zz_Ef_t p7.2.2.2 y5.2.2.2⟩, y6, y7⟩

/-- what the model does with a command that it has read -/
def zz_mdo (K : Nat) (v far scratch : Nat → Int32) (tx ty tm : Int32) (text il : Nat → Int32) (hp kc y0 y1 y2 y3 x4 wr : Int32) : Option (Int32 × (Nat → Int32) × (Nat → Int32) × (Nat → Int32) × Int32 × Int32 × Int32 × (Nat → Int32) × Int32 × Int32) := if kc = 8 then (f_X13_find K v y0).bind fun q172 => (f_X13_plans K 0 v far scratch tx ty q172 y1 y2 y3).bind fun q179 => some (q179.2.1, q179.2.2.1, q179.2.2.2.1, q179.2.2.2.2.1, q179.2.2.2.2.2.1, q179.2.2.2.2.2.2, tm, il, hp, wr) else (f_X13_does K 0 v scratch tx ty tm text hp kc y0 y1 x4).bind fun q192 => some (q192.2.1, q192.2.2.1, far, q192.2.2.2.1, q192.2.2.2.2.1, q192.2.2.2.2.2.1, q192.2.2.2.2.2.2, il, hp, wr)
def zz_dn (B : Nat) (M : mm_MV) (C : Option (Int32 × (Nat → Int32) × Int32 × Int32 × (Nat → Int32) × (Nat → Int32) × (Nat → Int32) × Int32 × Int32 × Int32 × Int32 × (Nat → Int32) × (Nat → Int32) × (Nat → Int32) × Int32 × Int32 × (Nat → Int32) × (Nat → Int32) × (Nat → Int32))) (D : Option (Int32 × (Nat → Int32) × (Nat → Int32) × (Nat → Int32) × Int32 × Int32 × Int32 × (Nat → Int32) × Int32 × Int32)) (il : Nat → Int32) (hp wr : Int32) : Prop :=
  (∃ (c : Int32) (N : mm_MV) (t q f : Nat → Int32) (e : Int32) (w far sc : Nat → Int32) (x y m : Int32), C = some (c, N.1, N.2.1, N.2.2.1, N.2.2.2.1, N.2.2.2.2.1, N.2.2.2.2.2.1, N.2.2.2.2.2.2.1, N.2.2.2.2.2.2.2.1, N.2.2.2.2.2.2.2.2.1, N.2.2.2.2.2.2.2.2.2.2.1, N.2.2.2.2.2.2.2.2.2.2.2.1, N.2.2.2.2.2.2.2.2.2.2.2.2.1, N.2.2.2.2.2.2.2.2.2.2.2.2.2.1, N.2.2.2.2.2.2.2.2.2.2.2.2.2.2.1, N.2.2.2.2.2.2.2.2.2.2.2.2.2.2.2, t, q, f) ∧ D = some (e, w, far, sc, x, y, m, il, hp, wr) ∧ ¬ 0 ≤ c ∧ ¬ e = 0) ∨
  (∃ (a : Nat) (N : mm_MV) (T : Nat → Nat) (t q f : Nat → Int32) (w far sc : Nat → Int32) (x y m : Int32), a < 2 ^ 31 ∧ C = some (nI a, N.1, N.2.1, N.2.2.1, N.2.2.2.1, N.2.2.2.2.1, N.2.2.2.2.2.1, N.2.2.2.2.2.2.1, N.2.2.2.2.2.2.2.1, N.2.2.2.2.2.2.2.2.1, N.2.2.2.2.2.2.2.2.2.2.1, N.2.2.2.2.2.2.2.2.2.2.2.1, N.2.2.2.2.2.2.2.2.2.2.2.2.1, N.2.2.2.2.2.2.2.2.2.2.2.2.2.1, N.2.2.2.2.2.2.2.2.2.2.2.2.2.2.1, N.2.2.2.2.2.2.2.2.2.2.2.2.2.2.2, t, q, f) ∧ D = some (0, w, far, sc, x, y, m, il, hp, wr) ∧ zz_Inv B T ∧ zz_Pc T N ∧ zz_Pm T w ∧ N.2.2.2.2.2.2.2.2.2.1 = M.2.2.2.2.2.2.2.2.2.1)

theorem zz_c3 {c e : Int32} (h : (c = -1 ∧ e = 1) ∨ (c = -3 ∧ e = 2)) : ¬ 0 ≤ c ∧ ¬ e = 0 := by
  rcases h with ⟨rfl, rfl⟩ | ⟨rfl, rfl⟩ <;> decide
theorem zz_c4 {c e : Int32} (h : (c = -1 ∧ e = 1) ∨ (c = -2 ∧ e = 2) ∨ (c = -3 ∧ e = 3)) : ¬ 0 ≤ c ∧ ¬ e = 0 := by
  rcases h with ⟨rfl, rfl⟩ | ⟨rfl, rfl⟩ | ⟨rfl, rfl⟩ <;> decide
theorem zz_c5 {c e : Int32} (h : (c = -1 ∧ e = 1) ∨ (c = -3 ∧ e = 2) ∨ (c = -5 ∧ e = 3)) : ¬ 0 ≤ c ∧ ¬ e = 0 := by
  rcases h with ⟨rfl, rfl⟩ | ⟨rfl, rfl⟩ | ⟨rfl, rfl⟩ <;> decide
theorem zz_c6 {c e : Int32} (h : (c = -2 ∧ e = 1) ∨ (c = -1 ∧ e = 2) ∨ (c = -5 ∧ e = 3)) : ¬ 0 ≤ c ∧ ¬ e = 0 := by
  rcases h with ⟨rfl, rfl⟩ | ⟨rfl, rfl⟩ | ⟨rfl, rfl⟩ <;> decide
theorem zz_c7 {c e : Int32} (h : (c = -2 ∧ e = 1) ∨ (c = -1 ∧ e = 2) ∨ (c = -3 ∧ e = 3)) : ¬ 0 ≤ c ∧ ¬ e = 0 := by
  rcases h with ⟨rfl, rfl⟩ | ⟨rfl, rfl⟩ | ⟨rfl, rfl⟩ <;> decide
theorem zz_c1 {c e : Int32} (h : c = -1 ∧ e = 1) : ¬ 0 ≤ c ∧ ¬ e = 0 := by
  obtain ⟨rfl, rfl⟩ := h
  decide
theorem zz_c0 {c e : Int32} (h : c = -4 ∧ e = 1) : ¬ 0 ≤ c ∧ ¬ e = 0 := by
  obtain ⟨rfl, rfl⟩ := h
  decide
theorem zp_do0 (hK : 9000000 ≤ K) (hB : B ≤ 1000000) (hi : zz_Inv B S) (hc : zz_Pc S M) (hM : zz_Pm S v) (tl qu fo far scratch : Nat → Int32) (tx ty tm : Int32) {sg text : Nat → Int32} (htx : zz_Tx n t sg text) (il : Nat → Int32) {p hp : Int32} {y0 y1 y2 y3 x4 wr : Int32} (h0 : f_X1_number K sg (nI n) p 0 0 = some y0) (h1 : f_X1_number K sg (nI n) p 1 0 = some y1) : zz_dn (B + 1) M (f_X12_carryOut K M.1 M.2.1 M.2.2.1 M.2.2.2.1 M.2.2.2.2.1 M.2.2.2.2.2.1 M.2.2.2.2.2.2.1 M.2.2.2.2.2.2.2.1 M.2.2.2.2.2.2.2.2.1 M.2.2.2.2.2.2.2.2.2.2.1 M.2.2.2.2.2.2.2.2.2.2.2.1 M.2.2.2.2.2.2.2.2.2.2.2.2.1 M.2.2.2.2.2.2.2.2.2.2.2.2.2.1 M.2.2.2.2.2.2.2.2.2.2.2.2.2.2.1 M.2.2.2.2.2.2.2.2.2.2.2.2.2.2.2 tl qu fo sg (nI n) p 0) (zz_mdo K v far scratch tx ty tm text il hp (nI 0) y0 y1 y2 y3 x4 wr) il hp wr := by
  obtain ⟨ir, ib, io, ip, il2, jf⟩ := hi
  obtain ⟨pr, pb, pp, pl, pf⟩ := hc
  have hB1 : B ≤ B + 1 := Nat.le_succ B
  rw [f_X12_carryOut, h0, zz_b, h1, zz_b, zz_g (by decide) (by decide), nI_clamp (by decide), if_pos (show mm_tS 0 = 1 by decide)]
  rw [zz_mdo, if_neg (show ¬ (nI 0 = 8) by decide), f_X13_does, if_pos (show nI 0 = 0 by decide)]
  rcases zp_grow (by omega : 2000 ≤ K) ir ib io pr pb.2.1 hM y0 y1 with ⟨c, e, r, c1, c2, c9⟩ | ⟨a, T, st', ct', v', a1, a2, a3, a4, a5, aE, a8, a9⟩
  · left
    refine ⟨c, M, tl, qu, fo, e, v, far, scratch, tx, ty, tm, ?_, ?_, (zz_c3 c9).1, (zz_c3 c9).2⟩
    · rw [pb.2.2.2.1, c1, zz_b, ← pb.2.2.2.1]
      try rfl
    · rw [c2, zz_b]
      try rfl
  · right
    refine ⟨a, (st', ct', M.2.2.1, M.2.2.2.1, M.2.2.2.2.1, M.2.2.2.2.2.1, nI (S 3), M.2.2.2.2.2.2.2.1, M.2.2.2.2.2.2.2.2.1, M.2.2.2.2.2.2.2.2.2.1, M.2.2.2.2.2.2.2.2.2.2.1, M.2.2.2.2.2.2.2.2.2.2.2.1, M.2.2.2.2.2.2.2.2.2.2.2.2.1, M.2.2.2.2.2.2.2.2.2.2.2.2.2.1, M.2.2.2.2.2.2.2.2.2.2.2.2.2.2.1, M.2.2.2.2.2.2.2.2.2.2.2.2.2.2.2), T, tl, qu, fo, v', far, scratch, tx, ty, tm, a1, ?_, ?_, ⟨a4, zz_Eb_I aE.1 hB1 ib, a5, zz_Ep_I aE.2.1 ip, zz_El_I aE.2.2.1 il2, zz_Ef_I aE.2.2.2 jf⟩, ⟨a8, (by have q := zz_Eb_P aE.1 ib.2.1 pb; rw [pb.2.2.2.1] at q; exact q), zz_Ep_P aE.2.1 ip pp, zz_El_P aE.2.2.1 il2 pl, zz_Ef_P aE.2.2.2 pf⟩, a9, rfl⟩
    · rw [pb.2.2.2.1, a2, zz_b]
      try rfl
    · rw [a3, zz_b]
      try rfl
theorem zp_do1 (hK : 9000000 ≤ K) (hB : B ≤ 1000000) (hi : zz_Inv B S) (hc : zz_Pc S M) (hM : zz_Pm S v) (tl qu fo far scratch : Nat → Int32) (tx ty tm : Int32) {sg text : Nat → Int32} (htx : zz_Tx n t sg text) (il : Nat → Int32) {p hp : Int32} {y0 y1 y2 y3 x4 wr : Int32} (h0 : f_X1_number K sg (nI n) p 0 1 = some y0) (h1 : f_X1_number K sg (nI n) p 1 1 = some y1) : zz_dn (B + 1) M (f_X12_carryOut K M.1 M.2.1 M.2.2.1 M.2.2.2.1 M.2.2.2.2.1 M.2.2.2.2.2.1 M.2.2.2.2.2.2.1 M.2.2.2.2.2.2.2.1 M.2.2.2.2.2.2.2.2.1 M.2.2.2.2.2.2.2.2.2.2.1 M.2.2.2.2.2.2.2.2.2.2.2.1 M.2.2.2.2.2.2.2.2.2.2.2.2.1 M.2.2.2.2.2.2.2.2.2.2.2.2.2.1 M.2.2.2.2.2.2.2.2.2.2.2.2.2.2.1 M.2.2.2.2.2.2.2.2.2.2.2.2.2.2.2 tl qu fo sg (nI n) p 1) (zz_mdo K v far scratch tx ty tm text il hp (nI 1) y0 y1 y2 y3 x4 wr) il hp wr := by
  obtain ⟨ir, ib, io, ip, il2, jf⟩ := hi
  obtain ⟨pr, pb, pp, pl, pf⟩ := hc
  have hB1 : B ≤ B + 1 := Nat.le_succ B
  rw [f_X12_carryOut, h0, zz_b, h1, zz_b, zz_g (by decide) (by decide), nI_clamp (by decide), if_neg (show ¬ (mm_tS 1 = 1) by decide), if_pos (show mm_tS 1 = 2 by decide)]
  rw [zz_mdo, if_neg (show ¬ (nI 1 = 8) by decide), f_X13_does, if_neg (show ¬ (nI 1 = 0) by decide), if_pos (show nI 1 = 1 by decide)]
  rcases zp_snap (by omega : 2000 ≤ K) ir ib io pr hM y0 y1 with ⟨c, e, r, c1, c2, c9⟩ | ⟨a, T, st', br', v', a1, a2, a3, a4, a5, aE, a8, a9⟩
  · left
    refine ⟨c, M, tl, qu, fo, e, v, far, scratch, tx, ty, tm, ?_, ?_, (zz_c4 c9).1, (zz_c4 c9).2⟩
    · rw [c1, zz_b]
      try rfl
    · rw [c2, zz_b]
      try rfl
  · right
    refine ⟨a, (st', M.2.1, br', M.2.2.2.1, M.2.2.2.2.1, M.2.2.2.2.2.1, M.2.2.2.2.2.2.1, M.2.2.2.2.2.2.2.1, M.2.2.2.2.2.2.2.2.1, M.2.2.2.2.2.2.2.2.2.1, M.2.2.2.2.2.2.2.2.2.2.1, M.2.2.2.2.2.2.2.2.2.2.2.1, M.2.2.2.2.2.2.2.2.2.2.2.2.1, M.2.2.2.2.2.2.2.2.2.2.2.2.2.1, M.2.2.2.2.2.2.2.2.2.2.2.2.2.2.1, M.2.2.2.2.2.2.2.2.2.2.2.2.2.2.2), T, tl, qu, fo, v', far, scratch, tx, ty, tm, a1, ?_, ?_, ⟨a4, zz_Eb_I aE.1 hB1 ib, a5, zz_Ep_I aE.2.1 ip, zz_El_I aE.2.2.1 il2, zz_Ef_I aE.2.2.2 jf⟩, ⟨a8, zz_Eb_P aE.1 ib.2.1 pb, zz_Ep_P aE.2.1 ip pp, zz_El_P aE.2.2.1 il2 pl, zz_Ef_P aE.2.2.2 pf⟩, a9, rfl⟩
    · rw [a2, zz_b]
      try rfl
    · rw [a3, zz_b]
      try rfl
theorem zp_do2 (hK : 9000000 ≤ K) (hB : B ≤ 1000000) (hi : zz_Inv B S) (hc : zz_Pc S M) (hM : zz_Pm S v) (tl qu fo far scratch : Nat → Int32) (tx ty tm : Int32) {sg text : Nat → Int32} (htx : zz_Tx n t sg text) (il : Nat → Int32) {p hp : Int32} {y0 y1 y2 y3 x4 wr : Int32} (h0 : f_X1_number K sg (nI n) p 0 2 = some y0) (h1 : f_X1_number K sg (nI n) p 1 2 = some y1) : zz_dn (B + 1) M (f_X12_carryOut K M.1 M.2.1 M.2.2.1 M.2.2.2.1 M.2.2.2.2.1 M.2.2.2.2.2.1 M.2.2.2.2.2.2.1 M.2.2.2.2.2.2.2.1 M.2.2.2.2.2.2.2.2.1 M.2.2.2.2.2.2.2.2.2.2.1 M.2.2.2.2.2.2.2.2.2.2.2.1 M.2.2.2.2.2.2.2.2.2.2.2.2.1 M.2.2.2.2.2.2.2.2.2.2.2.2.2.1 M.2.2.2.2.2.2.2.2.2.2.2.2.2.2.1 M.2.2.2.2.2.2.2.2.2.2.2.2.2.2.2 tl qu fo sg (nI n) p 2) (zz_mdo K v far scratch tx ty tm text il hp (nI 2) y0 y1 y2 y3 x4 wr) il hp wr := by
  obtain ⟨ir, ib, io, ip, il2, jf⟩ := hi
  obtain ⟨pr, pb, pp, pl, pf⟩ := hc
  have hB1 : B ≤ B + 1 := Nat.le_succ B
  rw [f_X12_carryOut, h0, zz_b, h1, zz_b, zz_g (by decide) (by decide), nI_clamp (by decide), if_neg (show ¬ (mm_tS 2 = 1) by decide), if_neg (show ¬ (mm_tS 2 = 2) by decide), if_pos (show mm_tS 2 = 3 by decide)]
  rw [zz_mdo, if_neg (show ¬ (nI 2 = 8) by decide), f_X13_does, if_neg (show ¬ (nI 2 = 0) by decide), if_neg (show ¬ (nI 2 = 1) by decide), if_pos (show nI 2 = 2 by decide)]
  rcases zp_launch (by omega : 2000 ≤ K) hB pr.1 ir ib io pb hM y0 y1 with ⟨c, e, r, c1, c2, c9⟩ | ⟨a, T, nu', ce', fa', fc', nx', v', a1, a2, a3, a4, a5, aE, a8, a9⟩
  · left
    refine ⟨c, M, tl, qu, fo, e, v, far, scratch, tx, ty, tm, ?_, ?_, (zz_c5 c9).1, (zz_c5 c9).2⟩
    · rw [c1, zz_b]
      try rfl
    · rw [c2, zz_b]
      try rfl
  · right
    refine ⟨a, (M.1, M.2.1, M.2.2.1, nu', ce', fa', fc', nx', M.2.2.2.2.2.2.2.2.1, M.2.2.2.2.2.2.2.2.2.1, M.2.2.2.2.2.2.2.2.2.2.1, M.2.2.2.2.2.2.2.2.2.2.2.1, M.2.2.2.2.2.2.2.2.2.2.2.2.1, M.2.2.2.2.2.2.2.2.2.2.2.2.2.1, M.2.2.2.2.2.2.2.2.2.2.2.2.2.2.1, M.2.2.2.2.2.2.2.2.2.2.2.2.2.2.2), T, tl, qu, fo, v', far, scratch, tx, ty, tm, a1, ?_, ?_, ⟨zz_Er_I aE.1 ir, a4, a5, zz_Ep_I aE.2.1 ip, zz_El_I aE.2.2.1 il2, zz_Ef_I aE.2.2.2 jf⟩, ⟨zz_Er_P aE.1 pr, a8, zz_Ep_P aE.2.1 ip pp, zz_El_P aE.2.2.1 il2 pl, zz_Ef_P aE.2.2.2 pf⟩, a9, rfl⟩
    · rw [a2, zz_b]
      try rfl
    · rw [a3, zz_b]
      try rfl
theorem zp_do3 (hK : 9000000 ≤ K) (hB : B ≤ 1000000) (hi : zz_Inv B S) (hc : zz_Pc S M) (hM : zz_Pm S v) (tl qu fo far scratch : Nat → Int32) (tx ty tm : Int32) {sg text : Nat → Int32} (htx : zz_Tx n t sg text) (il : Nat → Int32) {p hp : Int32} {y0 y1 y2 y3 x4 wr : Int32} (h0 : f_X1_number K sg (nI n) p 0 3 = some y0) (h1 : f_X1_number K sg (nI n) p 1 3 = some y1) {q : Nat} (hq : q ≤ n) (hp3 : p + mm_pl 3 = nI q) (hx4 : x4 = nI q) (hhp : hp = nI (zz_em t n q)) : zz_dn (B + 1) M (f_X12_carryOut K M.1 M.2.1 M.2.2.1 M.2.2.2.1 M.2.2.2.2.1 M.2.2.2.2.2.1 M.2.2.2.2.2.2.1 M.2.2.2.2.2.2.2.1 M.2.2.2.2.2.2.2.2.1 M.2.2.2.2.2.2.2.2.2.2.1 M.2.2.2.2.2.2.2.2.2.2.2.1 M.2.2.2.2.2.2.2.2.2.2.2.2.1 M.2.2.2.2.2.2.2.2.2.2.2.2.2.1 M.2.2.2.2.2.2.2.2.2.2.2.2.2.2.1 M.2.2.2.2.2.2.2.2.2.2.2.2.2.2.2 tl qu fo sg (nI n) p 3) (zz_mdo K v far scratch tx ty tm text il hp (nI 3) y0 y1 y2 y3 x4 wr) il hp wr := by
  obtain ⟨ir, ib, io, ip, il2, jf⟩ := hi
  obtain ⟨pr, pb, pp, pl, pf⟩ := hc
  have hB1 : B ≤ B + 1 := Nat.le_succ B
  rw [f_X12_carryOut, h0, zz_b, h1, zz_b, zz_g (by decide) (by decide), nI_clamp (by decide), if_neg (show ¬ (mm_tS 3 = 1) by decide), if_neg (show ¬ (mm_tS 3 = 2) by decide), if_neg (show ¬ (mm_tS 3 = 3) by decide), if_pos (show mm_tS 3 = 4 by decide)]
  rw [zz_mdo, if_neg (show ¬ (nI 3 = 8) by decide), f_X13_does, if_neg (show ¬ (nI 3 = 0) by decide), if_neg (show ¬ (nI 3 = 1) by decide), if_neg (show ¬ (nI 3 = 2) by decide), if_pos (show nI 3 = 3 by decide)]
  rw [hp3, hx4, hhp]
  rcases zp_rewrite htx (by omega : 2000 ≤ K) ip pp hM y0 hq with ⟨c, r, e, mo', le', w, c1, c2, c8, c9⟩ | ⟨a, T, mo', le', v', a1, a2, a3, a4, aE, a8, a9⟩
  · left
    refine ⟨c, (M.1, M.2.1, M.2.2.1, M.2.2.2.1, M.2.2.2.2.1, M.2.2.2.2.2.1, M.2.2.2.2.2.2.1, M.2.2.2.2.2.2.2.1, M.2.2.2.2.2.2.2.2.1, M.2.2.2.2.2.2.2.2.2.1, M.2.2.2.2.2.2.2.2.2.2.1, mo', le', M.2.2.2.2.2.2.2.2.2.2.2.2.2.1, M.2.2.2.2.2.2.2.2.2.2.2.2.2.2.1, M.2.2.2.2.2.2.2.2.2.2.2.2.2.2.2), tl, qu, fo, e, w, far, scratch, tx, ty, tm, ?_, ?_, c8, c9⟩
    · rw [c1, zz_b]
      try rfl
    · rw [c2, zz_b]
      try rfl
  · right
    refine ⟨a, (M.1, M.2.1, M.2.2.1, M.2.2.2.1, M.2.2.2.2.1, M.2.2.2.2.2.1, M.2.2.2.2.2.2.1, M.2.2.2.2.2.2.2.1, M.2.2.2.2.2.2.2.2.1, M.2.2.2.2.2.2.2.2.2.1, M.2.2.2.2.2.2.2.2.2.2.1, mo', le', M.2.2.2.2.2.2.2.2.2.2.2.2.2.1, M.2.2.2.2.2.2.2.2.2.2.2.2.2.2.1, M.2.2.2.2.2.2.2.2.2.2.2.2.2.2.2), T, tl, qu, fo, v', far, scratch, tx, ty, tm, a1, ?_, ?_, ⟨zz_Er_I aE.1 ir, zz_Eb_I aE.2.1 hB1 ib, zz_Io_E aE.1 aE.2.1 ib io, a4, zz_El_I aE.2.2.1 il2, zz_Ef_I aE.2.2.2 jf⟩, ⟨zz_Er_P aE.1 pr, zz_Eb_P aE.2.1 ib.2.1 pb, a8, zz_El_P aE.2.2.1 il2 pl, zz_Ef_P aE.2.2.2 pf⟩, a9, rfl⟩
    · rw [a2, zz_b]
      try rfl
    · rw [a3, zz_b]
      try rfl
theorem zp_do4 (hK : 9000000 ≤ K) (hB : B ≤ 1000000) (hi : zz_Inv B S) (hc : zz_Pc S M) (hM : zz_Pm S v) (tl qu fo far scratch : Nat → Int32) (tx ty tm : Int32) {sg text : Nat → Int32} (htx : zz_Tx n t sg text) (il : Nat → Int32) {p hp : Int32} {y0 y1 y2 y3 x4 wr : Int32} (h0 : f_X1_number K sg (nI n) p 0 4 = some y0) (h1 : f_X1_number K sg (nI n) p 1 4 = some y1) : zz_dn (B + 1) M (f_X12_carryOut K M.1 M.2.1 M.2.2.1 M.2.2.2.1 M.2.2.2.2.1 M.2.2.2.2.2.1 M.2.2.2.2.2.2.1 M.2.2.2.2.2.2.2.1 M.2.2.2.2.2.2.2.2.1 M.2.2.2.2.2.2.2.2.2.2.1 M.2.2.2.2.2.2.2.2.2.2.2.1 M.2.2.2.2.2.2.2.2.2.2.2.2.1 M.2.2.2.2.2.2.2.2.2.2.2.2.2.1 M.2.2.2.2.2.2.2.2.2.2.2.2.2.2.1 M.2.2.2.2.2.2.2.2.2.2.2.2.2.2.2 tl qu fo sg (nI n) p 4) (zz_mdo K v far scratch tx ty tm text il hp (nI 4) y0 y1 y2 y3 x4 wr) il hp wr := by
  obtain ⟨ir, ib, io, ip, il2, jf⟩ := hi
  obtain ⟨pr, pb, pp, pl, pf⟩ := hc
  have hB1 : B ≤ B + 1 := Nat.le_succ B
  rw [f_X12_carryOut, h0, zz_b, h1, zz_b, zz_g (by decide) (by decide), nI_clamp (by decide), if_neg (show ¬ (mm_tS 4 = 1) by decide), if_neg (show ¬ (mm_tS 4 = 2) by decide), if_neg (show ¬ (mm_tS 4 = 3) by decide), if_neg (show ¬ (mm_tS 4 = 4) by decide), if_pos (show mm_tS 4 = 5 by decide)]
  rw [zz_mdo, if_neg (show ¬ (nI 4 = 8) by decide), f_X13_does, if_neg (show ¬ (nI 4 = 0) by decide), if_neg (show ¬ (nI 4 = 1) by decide), if_neg (show ¬ (nI 4 = 2) by decide), if_neg (show ¬ (nI 4 = 3) by decide), if_pos (show nI 4 = 4 by decide)]
  rcases zp_mirror (scratch := scratch) (by omega : 2000 ≤ K) ip pp hM y0 y1 with ⟨c, e, r, c1, c2, c9⟩ | ⟨a, T, mo', le', v', sc', a1, a2, a3, a4, aE, a8, a9⟩
  · left
    refine ⟨c, M, tl, qu, fo, e, v, far, scratch, tx, ty, tm, ?_, ?_, (zz_c1 c9).1, (zz_c1 c9).2⟩
    · rw [c1, zz_b]
      try rfl
    · rw [c2, zz_b]
      try rfl
  · right
    refine ⟨a, (M.1, M.2.1, M.2.2.1, M.2.2.2.1, M.2.2.2.2.1, M.2.2.2.2.2.1, M.2.2.2.2.2.2.1, M.2.2.2.2.2.2.2.1, M.2.2.2.2.2.2.2.2.1, M.2.2.2.2.2.2.2.2.2.1, M.2.2.2.2.2.2.2.2.2.2.1, mo', le', M.2.2.2.2.2.2.2.2.2.2.2.2.2.1, M.2.2.2.2.2.2.2.2.2.2.2.2.2.2.1, M.2.2.2.2.2.2.2.2.2.2.2.2.2.2.2), T, tl, qu, fo, v', far, sc', tx, ty, tm, a1, ?_, ?_, ⟨zz_Er_I aE.1 ir, zz_Eb_I aE.2.1 hB1 ib, zz_Io_E aE.1 aE.2.1 ib io, a4, zz_El_I aE.2.2.1 il2, zz_Ef_I aE.2.2.2 jf⟩, ⟨zz_Er_P aE.1 pr, zz_Eb_P aE.2.1 ib.2.1 pb, a8, zz_El_P aE.2.2.1 il2 pl, zz_Ef_P aE.2.2.2 pf⟩, a9, rfl⟩
    · rw [a2, zz_b]
      try rfl
    · rw [a3, zz_b]
      try rfl
theorem zp_do5 (hK : 9000000 ≤ K) (hB : B ≤ 1000000) (hi : zz_Inv B S) (hc : zz_Pc S M) (hM : zz_Pm S v) (tl qu fo far scratch : Nat → Int32) (tx ty tm : Int32) {sg text : Nat → Int32} (htx : zz_Tx n t sg text) (il : Nat → Int32) {p hp : Int32} {y0 y1 y2 y3 x4 wr : Int32} (h0 : f_X1_number K sg (nI n) p 0 5 = some y0) (h1 : f_X1_number K sg (nI n) p 1 5 = some y1) : zz_dn (B + 1) M (f_X12_carryOut K M.1 M.2.1 M.2.2.1 M.2.2.2.1 M.2.2.2.2.1 M.2.2.2.2.2.1 M.2.2.2.2.2.2.1 M.2.2.2.2.2.2.2.1 M.2.2.2.2.2.2.2.2.1 M.2.2.2.2.2.2.2.2.2.2.1 M.2.2.2.2.2.2.2.2.2.2.2.1 M.2.2.2.2.2.2.2.2.2.2.2.2.1 M.2.2.2.2.2.2.2.2.2.2.2.2.2.1 M.2.2.2.2.2.2.2.2.2.2.2.2.2.2.1 M.2.2.2.2.2.2.2.2.2.2.2.2.2.2.2 tl qu fo sg (nI n) p 5) (zz_mdo K v far scratch tx ty tm text il hp (nI 5) y0 y1 y2 y3 x4 wr) il hp wr := by
  obtain ⟨ir, ib, io, ip, il2, jf⟩ := hi
  obtain ⟨pr, pb, pp, pl, pf⟩ := hc
  have hB1 : B ≤ B + 1 := Nat.le_succ B
  rw [f_X12_carryOut, h0, zz_b, h1, zz_b, zz_g (by decide) (by decide), nI_clamp (by decide), if_neg (show ¬ (mm_tS 5 = 1) by decide), if_neg (show ¬ (mm_tS 5 = 2) by decide), if_neg (show ¬ (mm_tS 5 = 3) by decide), if_neg (show ¬ (mm_tS 5 = 4) by decide), if_neg (show ¬ (mm_tS 5 = 5) by decide), if_pos (show mm_tS 5 = 6 by decide)]
  rw [zz_mdo, if_neg (show ¬ (nI 5 = 8) by decide), f_X13_does, if_neg (show ¬ (nI 5 = 0) by decide), if_neg (show ¬ (nI 5 = 1) by decide), if_neg (show ¬ (nI 5 = 2) by decide), if_neg (show ¬ (nI 5 = 3) by decide), if_neg (show ¬ (nI 5 = 4) by decide), if_pos (show nI 5 = 5 by decide)]
  rcases zp_back (scratch := scratch) (by omega : 2000 ≤ K) ip pp hM y0 y1 with ⟨c, e, r, c1, c2, c9⟩ | ⟨a, T, mo', le', v', sc', a1, a2, a3, a4, aE, a8, a9⟩
  · left
    refine ⟨c, M, tl, qu, fo, e, v, far, scratch, tx, ty, tm, ?_, ?_, (zz_c1 c9).1, (zz_c1 c9).2⟩
    · rw [c1, zz_b]
      try rfl
    · rw [c2, zz_b]
      try rfl
  · right
    refine ⟨a, (M.1, M.2.1, M.2.2.1, M.2.2.2.1, M.2.2.2.2.1, M.2.2.2.2.2.1, M.2.2.2.2.2.2.1, M.2.2.2.2.2.2.2.1, M.2.2.2.2.2.2.2.2.1, M.2.2.2.2.2.2.2.2.2.1, M.2.2.2.2.2.2.2.2.2.2.1, mo', le', M.2.2.2.2.2.2.2.2.2.2.2.2.2.1, M.2.2.2.2.2.2.2.2.2.2.2.2.2.2.1, M.2.2.2.2.2.2.2.2.2.2.2.2.2.2.2), T, tl, qu, fo, v', far, sc', tx, ty, tm, a1, ?_, ?_, ⟨zz_Er_I aE.1 ir, zz_Eb_I aE.2.1 hB1 ib, zz_Io_E aE.1 aE.2.1 ib io, a4, zz_El_I aE.2.2.1 il2, zz_Ef_I aE.2.2.2 jf⟩, ⟨zz_Er_P aE.1 pr, zz_Eb_P aE.2.1 ib.2.1 pb, a8, zz_El_P aE.2.2.1 il2 pl, zz_Ef_P aE.2.2.2 pf⟩, a9, rfl⟩
    · rw [a2, zz_b]
      try rfl
    · rw [a3, zz_b]
      try rfl
theorem zp_do6 (hK : 9000000 ≤ K) (hB : B ≤ 1000000) (hi : zz_Inv B S) (hc : zz_Pc S M) (hM : zz_Pm S v) (tl qu fo far scratch : Nat → Int32) (tx ty tm : Int32) {sg text : Nat → Int32} (htx : zz_Tx n t sg text) (il : Nat → Int32) {p hp : Int32} {y0 y1 y2 y3 x4 wr : Int32} (h0 : f_X1_number K sg (nI n) p 0 6 = some y0) (h1 : f_X1_number K sg (nI n) p 1 6 = some y1) : zz_dn (B + 1) M (f_X12_carryOut K M.1 M.2.1 M.2.2.1 M.2.2.2.1 M.2.2.2.2.1 M.2.2.2.2.2.1 M.2.2.2.2.2.2.1 M.2.2.2.2.2.2.2.1 M.2.2.2.2.2.2.2.2.1 M.2.2.2.2.2.2.2.2.2.2.1 M.2.2.2.2.2.2.2.2.2.2.2.1 M.2.2.2.2.2.2.2.2.2.2.2.2.1 M.2.2.2.2.2.2.2.2.2.2.2.2.2.1 M.2.2.2.2.2.2.2.2.2.2.2.2.2.2.1 M.2.2.2.2.2.2.2.2.2.2.2.2.2.2.2 tl qu fo sg (nI n) p 6) (zz_mdo K v far scratch tx ty tm text il hp (nI 6) y0 y1 y2 y3 x4 wr) il hp wr := by
  obtain ⟨ir, ib, io, ip, il2, jf⟩ := hi
  obtain ⟨pr, pb, pp, pl, pf⟩ := hc
  have hB1 : B ≤ B + 1 := Nat.le_succ B
  rw [f_X12_carryOut, h0, zz_b, h1, zz_b, zz_g (by decide) (by decide), nI_clamp (by decide), if_neg (show ¬ (mm_tS 6 = 1) by decide), if_neg (show ¬ (mm_tS 6 = 2) by decide), if_neg (show ¬ (mm_tS 6 = 3) by decide), if_neg (show ¬ (mm_tS 6 = 4) by decide), if_neg (show ¬ (mm_tS 6 = 5) by decide), if_neg (show ¬ (mm_tS 6 = 6) by decide), if_pos (show mm_tS 6 = 7 by decide)]
  rw [zz_mdo, if_neg (show ¬ (nI 6 = 8) by decide), f_X13_does, if_neg (show ¬ (nI 6 = 0) by decide), if_neg (show ¬ (nI 6 = 1) by decide), if_neg (show ¬ (nI 6 = 2) by decide), if_neg (show ¬ (nI 6 = 3) by decide), if_neg (show ¬ (nI 6 = 4) by decide), if_neg (show ¬ (nI 6 = 5) by decide), if_pos (show nI 6 = 6 by decide)]
  rcases zp_reduce (scratch := scratch) (by omega : 2000 ≤ K) ip pp hM y0 with ⟨c, e, r, c1, c2, c9⟩ | ⟨a, T, mo', le', v', sc', a1, a2, a3, a4, aE, a8, a9⟩
  · left
    refine ⟨c, M, tl, qu, fo, e, v, far, scratch, tx, ty, tm, ?_, ?_, (zz_c1 c9).1, (zz_c1 c9).2⟩
    · rw [c1, zz_b]
      try rfl
    · rw [c2, zz_b]
      try rfl
  · right
    refine ⟨a, (M.1, M.2.1, M.2.2.1, M.2.2.2.1, M.2.2.2.2.1, M.2.2.2.2.2.1, M.2.2.2.2.2.2.1, M.2.2.2.2.2.2.2.1, M.2.2.2.2.2.2.2.2.1, M.2.2.2.2.2.2.2.2.2.1, M.2.2.2.2.2.2.2.2.2.2.1, mo', le', M.2.2.2.2.2.2.2.2.2.2.2.2.2.1, M.2.2.2.2.2.2.2.2.2.2.2.2.2.2.1, M.2.2.2.2.2.2.2.2.2.2.2.2.2.2.2), T, tl, qu, fo, v', far, sc', tx, ty, tm, a1, ?_, ?_, ⟨zz_Er_I aE.1 ir, zz_Eb_I aE.2.1 hB1 ib, zz_Io_E aE.1 aE.2.1 ib io, a4, zz_El_I aE.2.2.1 il2, zz_Ef_I aE.2.2.2 jf⟩, ⟨zz_Er_P aE.1 pr, zz_Eb_P aE.2.1 ib.2.1 pb, a8, zz_El_P aE.2.2.1 il2 pl, zz_Ef_P aE.2.2.2 pf⟩, a9, rfl⟩
    · rw [a2, zz_b]
      try rfl
    · rw [a3, zz_b]
      try rfl
theorem zp_do7 (hK : 9000000 ≤ K) (hB : B ≤ 1000000) (hi : zz_Inv B S) (hc : zz_Pc S M) (hM : zz_Pm S v) (tl qu fo far scratch : Nat → Int32) (tx ty tm : Int32) {sg text : Nat → Int32} (htx : zz_Tx n t sg text) (il : Nat → Int32) {p hp : Int32} {y0 y1 y2 y3 x4 wr : Int32} (h0 : f_X1_number K sg (nI n) p 0 7 = some y0) (h1 : f_X1_number K sg (nI n) p 1 7 = some y1) : zz_dn (B + 1) M (f_X12_carryOut K M.1 M.2.1 M.2.2.1 M.2.2.2.1 M.2.2.2.2.1 M.2.2.2.2.2.1 M.2.2.2.2.2.2.1 M.2.2.2.2.2.2.2.1 M.2.2.2.2.2.2.2.2.1 M.2.2.2.2.2.2.2.2.2.2.1 M.2.2.2.2.2.2.2.2.2.2.2.1 M.2.2.2.2.2.2.2.2.2.2.2.2.1 M.2.2.2.2.2.2.2.2.2.2.2.2.2.1 M.2.2.2.2.2.2.2.2.2.2.2.2.2.2.1 M.2.2.2.2.2.2.2.2.2.2.2.2.2.2.2 tl qu fo sg (nI n) p 7) (zz_mdo K v far scratch tx ty tm text il hp (nI 7) y0 y1 y2 y3 x4 wr) il hp wr := by
  obtain ⟨ir, ib, io, ip, il2, jf⟩ := hi
  obtain ⟨pr, pb, pp, pl, pf⟩ := hc
  have hB1 : B ≤ B + 1 := Nat.le_succ B
  rw [f_X12_carryOut, h0, zz_b, h1, zz_b, zz_g (by decide) (by decide), nI_clamp (by decide), if_neg (show ¬ (mm_tS 7 = 1) by decide), if_neg (show ¬ (mm_tS 7 = 2) by decide), if_neg (show ¬ (mm_tS 7 = 3) by decide), if_neg (show ¬ (mm_tS 7 = 4) by decide), if_neg (show ¬ (mm_tS 7 = 5) by decide), if_neg (show ¬ (mm_tS 7 = 6) by decide), if_neg (show ¬ (mm_tS 7 = 7) by decide), if_pos (show mm_tS 7 = 8 by decide)]
  rw [zz_mdo, if_neg (show ¬ (nI 7 = 8) by decide), f_X13_does, if_neg (show ¬ (nI 7 = 0) by decide), if_neg (show ¬ (nI 7 = 1) by decide), if_neg (show ¬ (nI 7 = 2) by decide), if_neg (show ¬ (nI 7 = 3) by decide), if_neg (show ¬ (nI 7 = 4) by decide), if_neg (show ¬ (nI 7 = 5) by decide), if_neg (show ¬ (nI 7 = 6) by decide), if_pos (show nI 7 = 7 by decide)]
  rcases zp_sail (by omega : 2000 ≤ K) hB pr.1 ir ib io ip pb pp hM tx ty tm y0 y1 with ⟨c, e, r, z, tx', ty', tm', c1, c2, c3, c9⟩ | ⟨a, T, ce', fa', to', me', v', z, tx', ty', tm', a1, a2, a3, a4, a5, a6, aE, a8, a9⟩
  · left
    refine ⟨c, M, tl, qu, fo, e, v, far, scratch, tx', ty', tm', ?_, ?_, (zz_c6 c9).1, (zz_c6 c9).2⟩
    · rw [c1, zz_b]
      try rfl
    · rw [c2, zz_b, c3, zz_b]
      try rfl
  · right
    refine ⟨a, (M.1, M.2.1, M.2.2.1, M.2.2.2.1, ce', fa', M.2.2.2.2.2.2.1, M.2.2.2.2.2.2.2.1, to', M.2.2.2.2.2.2.2.2.2.1, me', M.2.2.2.2.2.2.2.2.2.2.2.1, M.2.2.2.2.2.2.2.2.2.2.2.2.1, M.2.2.2.2.2.2.2.2.2.2.2.2.2.1, M.2.2.2.2.2.2.2.2.2.2.2.2.2.2.1, M.2.2.2.2.2.2.2.2.2.2.2.2.2.2.2), T, tl, qu, fo, v', far, scratch, tx', ty', tm', a1, ?_, ?_, ⟨zz_Er_I aE.1 ir, a5, a6, zz_Ep_I aE.2.1 ip, zz_El_I aE.2.2.1 il2, zz_Ef_I aE.2.2.2 jf⟩, ⟨zz_Er_P aE.1 pr, a8, zz_Ep_P aE.2.1 ip pp, zz_El_P aE.2.2.1 il2 pl, zz_Ef_P aE.2.2.2 pf⟩, a9, rfl⟩
    · rw [a2, zz_b]
      try rfl
    · rw [a3, zz_b, a4, zz_b]
      try rfl
theorem zp_do8 (hK : 9000000 ≤ K) (hB : B ≤ 1000000) (hi : zz_Inv B S) (hc : zz_Pc S M) (hM : zz_Pm S v) (tl qu fo far scratch : Nat → Int32) (tx ty tm : Int32) {sg text : Nat → Int32} (htx : zz_Tx n t sg text) (il : Nat → Int32) {p hp : Int32} {y0 y1 y2 y3 x4 wr : Int32} (h0 : f_X1_number K sg (nI n) p 0 8 = some y0) (h1 : f_X1_number K sg (nI n) p 1 8 = some y1) (h2 : f_X1_number K sg (nI n) p 2 8 = some y2) (h3 : f_X1_number K sg (nI n) p 3 8 = some y3) : zz_dn (B + 1) M (f_X12_carryOut K M.1 M.2.1 M.2.2.1 M.2.2.2.1 M.2.2.2.2.1 M.2.2.2.2.2.1 M.2.2.2.2.2.2.1 M.2.2.2.2.2.2.2.1 M.2.2.2.2.2.2.2.2.1 M.2.2.2.2.2.2.2.2.2.2.1 M.2.2.2.2.2.2.2.2.2.2.2.1 M.2.2.2.2.2.2.2.2.2.2.2.2.1 M.2.2.2.2.2.2.2.2.2.2.2.2.2.1 M.2.2.2.2.2.2.2.2.2.2.2.2.2.2.1 M.2.2.2.2.2.2.2.2.2.2.2.2.2.2.2 tl qu fo sg (nI n) p 8) (zz_mdo K v far scratch tx ty tm text il hp (nI 8) y0 y1 y2 y3 x4 wr) il hp wr := by
  obtain ⟨ir, ib, io, ip, il2, jf⟩ := hi
  obtain ⟨pr, pb, pp, pl, pf⟩ := hc
  have hB1 : B ≤ B + 1 := Nat.le_succ B
  rw [f_X12_carryOut, h0, zz_b, h1, zz_b, zz_g (by decide) (by decide), nI_clamp (by decide), if_neg (show ¬ (mm_tS 8 = 1) by decide), if_neg (show ¬ (mm_tS 8 = 2) by decide), if_neg (show ¬ (mm_tS 8 = 3) by decide), if_neg (show ¬ (mm_tS 8 = 4) by decide), if_neg (show ¬ (mm_tS 8 = 5) by decide), if_neg (show ¬ (mm_tS 8 = 6) by decide), if_neg (show ¬ (mm_tS 8 = 7) by decide), if_neg (show ¬ (mm_tS 8 = 8) by decide), if_pos (show mm_tS 8 = 9 by decide)]
  rw [zz_mdo, if_pos (show nI 8 = 8 by decide)]
  rcases zp_lay hK pr.1 ir ib io ip pb pp hM tl qu fo far scratch tx ty y0 y1 y2 y3 with ⟨c, e, r, t', q', f', z, far', sc', tx', ty', c1, c2, c3, c9⟩ | ⟨a, T, mo', le', t', q', f', v', z, far', sc', tx', ty', a1, a2, a3, a4, a5, aE, a8, a9⟩
  · left
    refine ⟨c, M, t', q', f', e, v, far', sc', tx', ty', tm, ?_, ?_, (zz_c7 c9).1, (zz_c7 c9).2⟩
    · rw [h2, zz_b, h3, zz_b, c1, zz_b]
      try rfl
    · rw [c2, zz_b, c3, zz_b]
      try rfl
  · right
    refine ⟨a, (M.1, M.2.1, M.2.2.1, M.2.2.2.1, M.2.2.2.2.1, M.2.2.2.2.2.1, M.2.2.2.2.2.2.1, M.2.2.2.2.2.2.2.1, M.2.2.2.2.2.2.2.2.1, M.2.2.2.2.2.2.2.2.2.1, M.2.2.2.2.2.2.2.2.2.2.1, mo', le', M.2.2.2.2.2.2.2.2.2.2.2.2.2.1, M.2.2.2.2.2.2.2.2.2.2.2.2.2.2.1, M.2.2.2.2.2.2.2.2.2.2.2.2.2.2.2), T, t', q', f', v', far', sc', tx', ty', tm, a1, ?_, ?_, ⟨zz_Er_I aE.1 ir, zz_Eb_I aE.2.1 hB1 ib, zz_Io_E aE.1 aE.2.1 ib io, a5, zz_El_I aE.2.2.1 il2, zz_Ef_I aE.2.2.2 jf⟩, ⟨zz_Er_P aE.1 pr, zz_Eb_P aE.2.1 ib.2.1 pb, a8, zz_El_P aE.2.2.1 il2 pl, zz_Ef_P aE.2.2.2 pf⟩, a9, rfl⟩
    · rw [h2, zz_b, h3, zz_b, a2, zz_b]
      try rfl
    · rw [a3, zz_b, a4, zz_b]
      try rfl
theorem zp_do9 (hK : 9000000 ≤ K) (hB : B ≤ 1000000) (hi : zz_Inv B S) (hc : zz_Pc S M) (hM : zz_Pm S v) (tl qu fo far scratch : Nat → Int32) (tx ty tm : Int32) {sg text : Nat → Int32} (htx : zz_Tx n t sg text) (il : Nat → Int32) {p hp : Int32} {y0 y1 y2 y3 x4 wr : Int32} (h0 : f_X1_number K sg (nI n) p 0 9 = some y0) (h1 : f_X1_number K sg (nI n) p 1 9 = some y1) : zz_dn (B + 1) M (f_X12_carryOut K M.1 M.2.1 M.2.2.1 M.2.2.2.1 M.2.2.2.2.1 M.2.2.2.2.2.1 M.2.2.2.2.2.2.1 M.2.2.2.2.2.2.2.1 M.2.2.2.2.2.2.2.2.1 M.2.2.2.2.2.2.2.2.2.2.1 M.2.2.2.2.2.2.2.2.2.2.2.1 M.2.2.2.2.2.2.2.2.2.2.2.2.1 M.2.2.2.2.2.2.2.2.2.2.2.2.2.1 M.2.2.2.2.2.2.2.2.2.2.2.2.2.2.1 M.2.2.2.2.2.2.2.2.2.2.2.2.2.2.2 tl qu fo sg (nI n) p 9) (zz_mdo K v far scratch tx ty tm text il hp (nI 9) y0 y1 y2 y3 x4 wr) il hp wr := by
  obtain ⟨ir, ib, io, ip, il2, jf⟩ := hi
  obtain ⟨pr, pb, pp, pl, pf⟩ := hc
  have hB1 : B ≤ B + 1 := Nat.le_succ B
  rw [f_X12_carryOut, h0, zz_b, h1, zz_b, zz_g (by decide) (by decide), nI_clamp (by decide), if_neg (show ¬ (mm_tS 9 = 1) by decide), if_neg (show ¬ (mm_tS 9 = 2) by decide), if_neg (show ¬ (mm_tS 9 = 3) by decide), if_neg (show ¬ (mm_tS 9 = 4) by decide), if_neg (show ¬ (mm_tS 9 = 5) by decide), if_neg (show ¬ (mm_tS 9 = 6) by decide), if_neg (show ¬ (mm_tS 9 = 7) by decide), if_neg (show ¬ (mm_tS 9 = 8) by decide), if_neg (show ¬ (mm_tS 9 = 9) by decide), if_pos (show mm_tS 9 = 10 by decide)]
  rw [zz_mdo, if_neg (show ¬ (nI 9 = 8) by decide), f_X13_does, if_neg (show ¬ (nI 9 = 0) by decide), if_neg (show ¬ (nI 9 = 1) by decide), if_neg (show ¬ (nI 9 = 2) by decide), if_neg (show ¬ (nI 9 = 3) by decide), if_neg (show ¬ (nI 9 = 4) by decide), if_neg (show ¬ (nI 9 = 5) by decide), if_neg (show ¬ (nI 9 = 6) by decide), if_neg (show ¬ (nI 9 = 7) by decide), if_neg (show ¬ (nI 9 = 8) by decide), if_pos (show nI 9 = 9 by decide)]
  rcases zp_land (by omega : 2000 ≤ K) il2 pl hM y0 y1 with ⟨c, e, r, c1, c2, c9⟩ | ⟨a, T, lc', ln', v', a1, a2, a3, a4, aE, a8, a9⟩
  · left
    refine ⟨c, M, tl, qu, fo, e, v, far, scratch, tx, ty, tm, ?_, ?_, (zz_c3 c9).1, (zz_c3 c9).2⟩
    · rw [c1, zz_b]
      try rfl
    · rw [c2, zz_b]
      try rfl
  · right
    refine ⟨a, (M.1, M.2.1, M.2.2.1, M.2.2.2.1, M.2.2.2.2.1, M.2.2.2.2.2.1, M.2.2.2.2.2.2.1, M.2.2.2.2.2.2.2.1, M.2.2.2.2.2.2.2.2.1, M.2.2.2.2.2.2.2.2.2.1, M.2.2.2.2.2.2.2.2.2.2.1, M.2.2.2.2.2.2.2.2.2.2.2.1, M.2.2.2.2.2.2.2.2.2.2.2.2.1, lc', ln', M.2.2.2.2.2.2.2.2.2.2.2.2.2.2.2), T, tl, qu, fo, v', far, scratch, tx, ty, tm, a1, ?_, ?_, ⟨zz_Er_I aE.1 ir, zz_Eb_I aE.2.1 hB1 ib, zz_Io_E aE.1 aE.2.1 ib io, zz_Ep_I aE.2.2.1 ip, a4, zz_Ef_I aE.2.2.2 jf⟩, ⟨zz_Er_P aE.1 pr, zz_Eb_P aE.2.1 ib.2.1 pb, zz_Ep_P aE.2.2.1 ip pp, a8, zz_Ef_P aE.2.2.2 pf⟩, a9, rfl⟩
    · rw [a2, zz_b]
      try rfl
    · rw [a3, zz_b]
      try rfl
theorem zp_do10 (hK : 9000000 ≤ K) (hB : B ≤ 1000000) (hi : zz_Inv B S) (hc : zz_Pc S M) (hM : zz_Pm S v) (tl qu fo far scratch : Nat → Int32) (tx ty tm : Int32) {sg text : Nat → Int32} (htx : zz_Tx n t sg text) (il : Nat → Int32) {p hp : Int32} {y0 y1 y2 y3 x4 wr : Int32} (h0 : f_X1_number K sg (nI n) p 0 10 = some y0) (h1 : f_X1_number K sg (nI n) p 1 10 = some y1) : zz_dn (B + 1) M (f_X12_carryOut K M.1 M.2.1 M.2.2.1 M.2.2.2.1 M.2.2.2.2.1 M.2.2.2.2.2.1 M.2.2.2.2.2.2.1 M.2.2.2.2.2.2.2.1 M.2.2.2.2.2.2.2.2.1 M.2.2.2.2.2.2.2.2.2.2.1 M.2.2.2.2.2.2.2.2.2.2.2.1 M.2.2.2.2.2.2.2.2.2.2.2.2.1 M.2.2.2.2.2.2.2.2.2.2.2.2.2.1 M.2.2.2.2.2.2.2.2.2.2.2.2.2.2.1 M.2.2.2.2.2.2.2.2.2.2.2.2.2.2.2 tl qu fo sg (nI n) p 10) (zz_mdo K v far scratch tx ty tm text il hp (nI 10) y0 y1 y2 y3 x4 wr) il hp wr := by
  obtain ⟨ir, ib, io, ip, il2, jf⟩ := hi
  obtain ⟨pr, pb, pp, pl, pf⟩ := hc
  have hB1 : B ≤ B + 1 := Nat.le_succ B
  rw [f_X12_carryOut, h0, zz_b, h1, zz_b, zz_g (by decide) (by decide), nI_clamp (by decide), if_neg (show ¬ (mm_tS 10 = 1) by decide), if_neg (show ¬ (mm_tS 10 = 2) by decide), if_neg (show ¬ (mm_tS 10 = 3) by decide), if_neg (show ¬ (mm_tS 10 = 4) by decide), if_neg (show ¬ (mm_tS 10 = 5) by decide), if_neg (show ¬ (mm_tS 10 = 6) by decide), if_neg (show ¬ (mm_tS 10 = 7) by decide), if_neg (show ¬ (mm_tS 10 = 8) by decide), if_neg (show ¬ (mm_tS 10 = 9) by decide), if_neg (show ¬ (mm_tS 10 = 10) by decide), if_pos (show mm_tS 10 = 11 by decide)]
  rw [zz_mdo, if_neg (show ¬ (nI 10 = 8) by decide), f_X13_does, if_neg (show ¬ (nI 10 = 0) by decide), if_neg (show ¬ (nI 10 = 1) by decide), if_neg (show ¬ (nI 10 = 2) by decide), if_neg (show ¬ (nI 10 = 3) by decide), if_neg (show ¬ (nI 10 = 4) by decide), if_neg (show ¬ (nI 10 = 5) by decide), if_neg (show ¬ (nI 10 = 6) by decide), if_neg (show ¬ (nI 10 = 7) by decide), if_neg (show ¬ (nI 10 = 8) by decide), if_neg (show ¬ (nI 10 = 9) by decide)]
  rcases zp_fog jf pf hM y0 with ⟨c, e, r, c1, c2, c9⟩ | ⟨a, T, fg', v', a1, a2, a3, a4, aE, a8, a9⟩
  · left
    refine ⟨c, M, tl, qu, fo, e, v, far, scratch, tx, ty, tm, ?_, ?_, (zz_c0 c9).1, (zz_c0 c9).2⟩
    · rw [c1, zz_b]
      try rfl
    · rw [c2, zz_b]
      try rfl
  · right
    refine ⟨a, (M.1, M.2.1, M.2.2.1, M.2.2.2.1, M.2.2.2.2.1, M.2.2.2.2.2.1, M.2.2.2.2.2.2.1, M.2.2.2.2.2.2.2.1, M.2.2.2.2.2.2.2.2.1, M.2.2.2.2.2.2.2.2.2.1, M.2.2.2.2.2.2.2.2.2.2.1, M.2.2.2.2.2.2.2.2.2.2.2.1, M.2.2.2.2.2.2.2.2.2.2.2.2.1, M.2.2.2.2.2.2.2.2.2.2.2.2.2.1, M.2.2.2.2.2.2.2.2.2.2.2.2.2.2.1, fg'), T, tl, qu, fo, v', far, scratch, tx, ty, tm, a1, ?_, ?_, ⟨zz_Er_I aE.1 ir, zz_Eb_I aE.2.1 hB1 ib, zz_Io_E aE.1 aE.2.1 ib io, zz_Ep_I aE.2.2.1 ip, zz_El_I aE.2.2.2 il2, a4⟩, ⟨zz_Er_P aE.1 pr, zz_Eb_P aE.2.1 ib.2.1 pb, zz_Ep_P aE.2.2.1 ip pp, zz_El_P aE.2.2.2 il2 pl, a8⟩, a9, rfl⟩
    · rw [a2, zz_b]
      try rfl
    · rw [a3, zz_b]
      try rfl
end ZDO
