-- the word of a command, read by the model
section ZWD
variable {K n p k : Nat} {t : Nat → Nat} {sg tx wd wa il : Nat → Int32}
def zz_Wd (wd wa : Nat → Int32) : Prop := (∀ k, k < 12 → wa k = nI (zz_wa k)) ∧ ∀ k, k < 11 → ∀ j, j < zz_wl k → wd (zz_wa k + j) = nI (zz_pz k j)
def zz_w (t : Nat → Nat) (n p k : Nat) : Nat := if zz_wl k ≤ zz_m t n p k then zz_wl k else zz_m t n p k
theorem zz_m_1 {x : Nat} : x + 1 ≤ zz_m t n p k ↔ x ≤ zz_m t n p k ∧ x < zz_pl k ∧ zz_ok t n p (zz_pz k x) x = true := by
  obtain ⟨h1, h2, h3⟩ := zz_m_s (t := t) (n := n) (p := p) (k := k)
  constructor
  · intro h
    exact ⟨by omega, by omega, h2 x (by omega)⟩
  · intro ⟨a, b, c⟩
    by_cases e : x = zz_m t n p k
    · rw [e, h3 (by omega)] at c
      cases c
    · omega
theorem zz_w_le {x : Nat} : x ≤ zz_w t n p k ↔ x ≤ zz_wl k ∧ x ≤ zz_m t n p k := by
  unfold zz_w
  split <;> omega
theorem zz_w_s (hk : k < 11) {x : Nat} : x + 1 ≤ zz_w t n p k ↔ x ≤ zz_w t n p k ∧ x < zz_wl k ∧ zz_ok t n p (zz_pz k x) x = true := by
  obtain ⟨g1, g2, g3, g4, g5, _⟩ := zz_pat1 k hk
  rw [zz_w_le, zz_w_le, zz_m_1]
  constructor
  · intro ⟨a, b, c, d⟩
    exact ⟨⟨by omega, b⟩, by omega, d⟩
  · intro ⟨⟨a, b⟩, c, d⟩
    exact ⟨by omega, b, by omega, d⟩
theorem zz_w_and0 : ∀ b, zz_B b &&& 0 = 0 := by decide
theorem zz_w_and1 : ∀ b, zz_B b &&& 1 = zz_B b := by decide
theorem zz_w_or0 : ∀ b, zz_B b ||| 0 = zz_B b := by decide
theorem zz_w_or1 : ∀ b, zz_B b ||| 1 = 1 := by decide
theorem zz_w_an_1 {f : Nat → Bool} {i : Nat} : zz_an f (i + 1) = (zz_an f i || f i) := by
  cases e : f i with
  | true => rw [zz_an_y e (Nat.lt_succ_self i), Bool.or_true]
  | false =>
    cases g : zz_an f i with
    | true =>
      obtain ⟨j, h1, h2⟩ := zz_an_t.mp g
      exact zz_an_t.mpr ⟨j, by omega, h2⟩
    | false => exact zz_an_n g e
theorem zm_signV (h : zz_Tx n t sg tx) {i : Nat} (hi : i < 2 ^ 31) : f_X13_sign tx (nI i) (nI n) = some (if i < n then nI (t i) else -1) := by
  by_cases e : i < n
  · rw [if_pos e, zm_sign h e]
  · rw [if_neg e, zm_sign_n (by omega) hi]
theorem zm_fits (h : zz_Tx n t sg tx) {c j : Nat} (hc : c ≠ 35) (hc2 : c ≤ 126) : (nI c = if p + j < n then nI (t (p + j)) else -1) ↔ zz_ok t n p c j = true := by
  unfold zz_ok
  rw [decide_eq_true_iff, if_neg hc]
  by_cases e : p + j < n
  · obtain ⟨a1, a2, _, _⟩ := h.2 _ e
    rw [if_pos e, nI_eq (by omega) (by omega)]
    exact ⟨fun q => ⟨e, q.symm⟩, fun q => q.2.symm⟩
  · rw [if_neg e]
    exact ⟨fun q => absurd q (zz_n1 (by omega)), fun q => absurd q.1 e⟩
theorem zm_wL2 (hK : 100 ≤ K) (il : Nat → Int32) : ∃ il', f_X13_word_L2 K 0 il = some il' ∧ ∀ k, k < 11 → il' k = 1 := by
  refine zz_for0 (fun K' i (r : Nat → Int32) => f_X13_word_L2 K' (nI i) r) 11 (fun i r => ∀ k, k < i → r k = 1) (fun z => ∃ il', z = some il' ∧ ∀ k, k < 11 → il' k = 1) ?_ ?_ K il (by omega) (fun k hk => by omega)
  · intro k r h
    refine ⟨r, ?_, h⟩
    show f_X13_word_L2 (k + 1) (nI 11) r = _
    rw [f_X13_word_L2, if_pos (by decide)]
  · intro k i r hi h ih
    show ∃ il', f_X13_word_L2 (k + 1) (nI i) r = some il' ∧ _
    rw [f_X13_word_L2, zz_l11, if_neg (nI_ge hi (by decide)), zz_g hi (by decide), nI_clamp (by omega), nI_1]
    refine ih _ (fun j hj => ?_)
    rw [zz_upd]
    by_cases e : j = i
    · rw [if_pos e]
    · rw [if_neg e]; exact h j (by omega)
theorem zm_wL41 (h : zz_Tx n t sg tx) (hw : zz_Wd wd wa) (hK : 100 ≤ K) (hp : p ≤ 60) {x : Nat} (hx : x ≤ 20) (hil : ∀ k, k < 11 → il k = zz_B (decide (x ≤ zz_w t n p k))) : ∃ il', f_X13_word_L41 tx wd wa (nI (p + x)) (nI n) (nI x) K 0 0 il = some (zz_B (zz_an (fun k => decide (x + 1 ≤ zz_w t n p k)) 11), il') ∧ ∀ k, k < 11 → il' k = zz_B (decide (x + 1 ≤ zz_w t n p k)) := by
  refine zz_for0 (fun K' i (r : Int32 × (Nat → Int32)) => f_X13_word_L41 tx wd wa (nI (p + x)) (nI n) (nI x) K' r.1 (nI i) r.2) 11 (fun i r => r.1 = zz_B (zz_an (fun k => decide (x + 1 ≤ zz_w t n p k)) i) ∧ (∀ k, k < i → r.2 k = zz_B (decide (x + 1 ≤ zz_w t n p k))) ∧ ∀ k, k < 11 → i ≤ k → r.2 k = zz_B (decide (x ≤ zz_w t n p k))) (fun z => ∃ il', z = some (zz_B (zz_an (fun k => decide (x + 1 ≤ zz_w t n p k)) 11), il') ∧ ∀ k, k < 11 → il' k = zz_B (decide (x + 1 ≤ zz_w t n p k))) ?_ ?_ K (0, il) (by omega) ⟨rfl, fun k hk => by omega, fun k hk _ => hil k hk⟩
  · intro k r g
    refine ⟨r.2, ?_, g.2.1⟩
    show f_X13_word_L41 tx wd wa (nI (p + x)) (nI n) (nI x) (k + 1) r.1 (nI 11) r.2 = _
    rw [f_X13_word_L41, if_pos (by decide), g.1]
  · intro k i r hi g ih
    show ∃ il', f_X13_word_L41 tx wd wa (nI (p + x)) (nI n) (nI x) (k + 1) r.1 (nI i) r.2 = some (_, il') ∧ _
    obtain ⟨g1, g2, g3⟩ := g
    obtain ⟨_, _, _, _, _, _, b1, b2, b3⟩ := zz_pat1 i hi
    have hri := g3 i hi (Nat.le_refl _)
    have hs := zz_w_s (t := t) (n := n) (p := p) hi (x := x)
    -- what the next round needs
    have fin : ∀ b : Bool, b = decide (x + 1 ≤ zz_w t n p i) → ∀ a, a = (if b = true then r.1 ||| 1 else r.1 ||| 0) → a = zz_B (zz_an (fun k => decide (x + 1 ≤ zz_w t n p k)) (i + 1)) ∧ (∀ j, j < i + 1 → upd r.2 i (zz_B b) j = zz_B (decide (x + 1 ≤ zz_w t n p j))) ∧ ∀ j, j < 11 → i + 1 ≤ j → upd r.2 i (zz_B b) j = zz_B (decide (x ≤ zz_w t n p j)) := by
      intro b hb a ha
      refine ⟨?_, fun j hj => ?_, fun j hj hj2 => ?_⟩
      · rw [ha, zz_w_an_1, g1]
        show _ = zz_B (_ || decide (x + 1 ≤ zz_w t n p i))
        rw [← hb]
        cases b with
        | true => rw [if_pos rfl, zz_w_or1, Bool.or_true]; rfl
        | false => rw [if_neg (by decide), zz_w_or0, Bool.or_false]
      · rw [zz_upd]
        by_cases e : j = i
        · rw [if_pos e, hb, e]
        · rw [if_neg e]; exact g2 j (by omega)
      · rw [zz_upd, if_neg (by omega)]
        exact g3 j hj (by omega)
    rw [f_X13_word_L41, zz_l11, if_neg (nI_ge hi (by decide)), zz_g hi (by decide), zz_g (by omega) (by decide), nI_1, zz_g (by omega) (by decide), nI_clamp (by omega), nI_clamp (by omega), hw.1 i (by omega), hw.1 (i + 1) (by omega), nI_add, b2]
    by_cases q : zz_wl i ≤ x
    · have hb : false = decide (x + 1 ≤ zz_w t n p i) := (decide_eq_false (fun z => by have := (hs.mp z).2.1; omega)).symm
      rw [if_pos (nI_le (by omega) (by omega)), zz_g hi (by decide), zz_g hi (by decide), hri, zz_w_and0, zz_upd, if_pos rfl, if_neg (by decide)]
      exact ih (_, _) (fin false hb _ rfl)
    · have h35 := (zz_pat2 i hi x (by omega)).2.2 (by omega)
      have h126 := (zz_pat2 i hi x (by omega)).2.1 (by omega)
      have hf := zm_fits (p := p) (j := x) h h35 h126.2
      rw [if_neg (nI_ge (by omega) (by omega)), zz_g (by omega) (by decide), zz_g (by omega) (by decide), zm_signV h (by omega), zz_b, nI_clamp (by omega), hw.2 i hi x (by omega)]
      by_cases u : zz_ok t n p (zz_pz i x) x = true
      · have hb : decide (x ≤ zz_w t n p i) = decide (x + 1 ≤ zz_w t n p i) := decide_eq_decide.mpr ⟨fun z => hs.mpr ⟨z, by omega, u⟩, fun z => (hs.mp z).1⟩
        rw [if_pos (hf.mpr u), zz_g hi (by decide), zz_g hi (by decide), hri, zz_w_and1, zz_upd, if_pos rfl]
        cases e : decide (x ≤ zz_w t n p i) with
        | true =>
          rw [zz_Bt, if_pos rfl]
          exact ih (_, _) (fin true (e.symm.trans hb) _ rfl)
        | false =>
          rw [zz_Bf, if_neg (by decide)]
          exact ih (_, _) (fin false (e.symm.trans hb) _ rfl)
      · have hb : false = decide (x + 1 ≤ zz_w t n p i) := (decide_eq_false (fun z => u (hs.mp z).2.2)).symm
        rw [if_neg (fun z => u (hf.mp z)), zz_g hi (by decide), zz_g hi (by decide), hri, zz_w_and0, zz_upd, if_pos rfl, if_neg (by decide)]
        exact ih (_, _) (fin false hb _ rfl)
theorem zm_wL167_n (hw : zz_Wd wd wa) (hK : 100 ≤ K) {y : Nat} (hy : y ≤ 20) (hil : ∀ k, k < 11 → il k = zz_B (decide (y ≤ zz_w t n p k))) (hno : ∀ k, k < 11 → y ≤ zz_w t n p k → zz_wl k ≠ y) (x2 : Int32) : f_X13_word_L167 il wa (nI y) K x2 0 = some x2 := by
  refine zz_for0 (fun K' i (_ : Unit) => f_X13_word_L167 il wa (nI y) K' x2 (nI i)) 11 (fun _ _ => True) (fun z => z = some x2) ?_ ?_ K () (by omega) trivial
  · intro k _ _
    show f_X13_word_L167 il wa (nI y) (k + 1) x2 (nI 11) = _
    rw [f_X13_word_L167, if_pos (by decide)]
  · intro k i _ hi _ ih
    show f_X13_word_L167 il wa (nI y) (k + 1) x2 (nI i) = _
    obtain ⟨_, _, _, _, _, _, b1, b2, b3⟩ := zz_pat1 i hi
    rw [f_X13_word_L167, zz_l11, if_neg (nI_ge hi (by decide)), zz_g hi (by decide), nI_clamp (by omega), hil i hi, nI_1]
    cases e : decide (y ≤ zz_w t n p i) with
    | true =>
      have := hno i hi (of_decide_eq_true e)
      rw [zz_Bt, if_pos rfl, zz_g (by omega) (by decide), zz_g (by omega) (by decide), nI_clamp (by omega), hw.1 i (by omega), hw.1 (i + 1) (by omega), nI_add, b2, if_neg (zz_ne (by omega) (by omega) (by omega))]
      exact ih () trivial
    | false =>
      rw [zz_Bf, if_neg (by decide)]
      exact ih () trivial
theorem zm_wL167_y (hw : zz_Wd wd wa) (hK : 100 ≤ K) {y k0 : Nat} (hy : y ≤ 20) (hk0 : k0 < 11) (hil : ∀ k, k < 11 → il k = zz_B (decide (y ≤ zz_w t n p k))) (hyes : y ≤ zz_w t n p k0 ∧ zz_wl k0 = y) (hno : ∀ k, k < 11 → k ≠ k0 → y ≤ zz_w t n p k → zz_wl k ≠ y) (x2 : Int32) : f_X13_word_L167 il wa (nI y) K x2 0 = some (nI k0) := by
  refine zz_for0 (fun K' i (a : Int32) => f_X13_word_L167 il wa (nI y) K' a (nI i)) 11 (fun i a => k0 < i → a = nI k0) (fun z => z = some (nI k0)) ?_ ?_ K x2 (by omega) (fun q => by omega)
  · intro k a ha
    show f_X13_word_L167 il wa (nI y) (k + 1) a (nI 11) = _
    rw [f_X13_word_L167, if_pos (by decide), ha hk0]
  · intro k i a hi ha ih
    show f_X13_word_L167 il wa (nI y) (k + 1) a (nI i) = _
    obtain ⟨_, _, _, _, _, _, b1, b2, b3⟩ := zz_pat1 i hi
    rw [f_X13_word_L167, zz_l11, if_neg (nI_ge hi (by decide)), zz_g hi (by decide), nI_clamp (by omega), hil i hi, nI_1]
    by_cases e0 : i = k0
    · have h1 : y ≤ zz_w t n p i := by rw [e0]; exact hyes.1
      have h2 : zz_wl i = y := by rw [e0]; exact hyes.2
      rw [decide_eq_true h1, zz_Bt, if_pos rfl, zz_g (by omega) (by decide), zz_g (by omega) (by decide), nI_clamp (by omega), hw.1 i (by omega), hw.1 (i + 1) (by omega), nI_add, b2, h2, if_pos rfl]
      exact ih _ (fun _ => by rw [e0])
    · cases e : decide (y ≤ zz_w t n p i) with
      | true =>
        have := hno i hi e0 (of_decide_eq_true e)
        rw [zz_Bt, if_pos rfl, zz_g (by omega) (by decide), zz_g (by omega) (by decide), nI_clamp (by omega), hw.1 i (by omega), hw.1 (i + 1) (by omega), nI_add, b2, if_neg (zz_ne (by omega) (by omega) (by omega))]
        exact ih _ (fun q => ha (by omega))
      | false =>
        rw [zz_Bf, if_neg (by decide)]
        exact ih _ (fun q => ha (by omega))
theorem zm_word_y (h : zz_Tx n t sg tx) (hw : zz_Wd wd wa) (hK : 100 ≤ K) (hp : p ≤ 60) (hk : k < 11) (hm : zz_wl k ≤ zz_m t n p k) (il : Nat → Int32) : ∃ il', f_X13_word K tx il wd wa (nI p) (nI n) 0 = some (nI k, il', nI (p + zz_wl k), 0) := by
  obtain ⟨_, _, _, _, a5, a6, a7, a8, a9⟩ := zz_pat1 k hk
  obtain ⟨il0, c1, c2⟩ := zm_wL2 hK il
  have hwk : zz_w t n p k = zz_wl k := if_pos hm
  have hL : ∃ il', f_X13_word_L25 K tx wd wa (nI n) K (nI 0) (-1) il0 (nI (p + 0)) 0 = some (nI k, il', nI (p + zz_wl k), 0) := by
    refine zz_for0 (fun K' i (r : Int32 × (Nat → Int32)) => f_X13_word_L25 K tx wd wa (nI n) K' (nI i) r.1 r.2 (nI (p + i)) 0) (zz_wl k) (fun i r => (i < zz_wl k → r.1 = -1) ∧ (i = zz_wl k → r.1 = nI k) ∧ ∀ j, j < 11 → r.2 j = zz_B (decide (i ≤ zz_w t n p j))) (fun z => ∃ il', z = some (nI k, il', nI (p + zz_wl k), 0)) ?_ ?_ K (-1, il0) (by omega) ⟨fun _ => rfl, fun q => by omega, fun j hj => (c2 j hj).trans (by rw [decide_eq_true (Nat.zero_le _)]; rfl)⟩
    · intro r s g
      refine ⟨s.2, ?_⟩
      show f_X13_word_L25 K tx wd wa (nI n) (r + 1) (nI (zz_wl k)) s.1 s.2 (nI (p + zz_wl k)) 0 = _
      rw [f_X13_word_L25, g.2.1 rfl, zz_l0, if_pos (nI_le (Nat.zero_le _) (by omega))]
    · intro r i s hi g ih
      show ∃ il', f_X13_word_L25 K tx wd wa (nI n) (r + 1) (nI i) s.1 s.2 (nI (p + i)) 0 = some (nI k, il', _, 0)
      obtain ⟨il', d1, d2⟩ := zm_wL41 h hw hK hp (x := i) (by omega) g.2.2
      have hany : zz_an (fun j => decide (i + 1 ≤ zz_w t n p j)) 11 = true := zz_an_t.mpr ⟨k, hk, decide_eq_true (by omega)⟩
      rw [f_X13_word_L25, g.1 hi, if_neg (by decide), if_pos rfl, d1, zz_b, hany, zz_Bt, if_neg (show ¬ ((1 : Int32) = 0) by decide), if_neg (show ¬ ((1 : Int32) = 0) by decide), nI_1, nI_1]
      have huni : ∀ j, j < 11 → j ≠ k → i + 1 ≤ zz_w t n p j → zz_wl j ≠ i + 1 := by
        intro j hj hjk h1 h2
        have := (zz_uni hk hj hjk hm).2
        have := (zz_w_le.mp h1).2
        omega
      by_cases e : i + 1 = zz_wl k
      · rw [zm_wL167_y hw hK (by omega) hk d2 ⟨by omega, e.symm⟩ huni, zz_b]
        exact ih (_, _) ⟨fun q => by omega, fun _ => rfl, d2⟩
      · rw [zm_wL167_n hw hK (by omega) d2 (fun j hj h1 h2 => by
          by_cases ej : j = k
          · rw [ej] at h2; exact e h2.symm
          · exact huni j hj ej h1 h2), zz_b]
        exact ih (_, _) ⟨fun _ => rfl, fun q => absurd q e, d2⟩
  obtain ⟨il', hL⟩ := hL
  refine ⟨il', ?_⟩
  rw [f_X13_word, c1, zz_b]
  show (f_X13_word_L25 K tx wd wa (nI n) K (nI 0) (-1) il0 (nI (p + 0)) 0).bind _ = _
  rw [hL]
  rfl
theorem zm_word_n (h : zz_Tx n t sg tx) (hw : zz_Wd wd wa) (hK : 100 ≤ K) (hp : p ≤ 60) (hm : ∀ k, k < 11 → zz_m t n p k < zz_wl k) (il : Nat → Int32) : ∃ il', f_X13_word K tx il wd wa (nI p) (nI n) 0 = some (-1, il', nI (p + zz_hi (zz_m t n p) 11), 1) := by
  obtain ⟨il0, c1, c2⟩ := zm_wL2 hK il
  have hX := zz_hi_10 (t := t) (n := n) (p := p)
  have hwk : ∀ k, k < 11 → zz_w t n p k = zz_m t n p k := fun k hk => if_neg (by have := hm k hk; omega)
  have hno : ∀ i k, k < 11 → i + 1 ≤ zz_w t n p k → zz_wl k ≠ i + 1 := by
    intro i k hk h1 h2
    have := hm k hk
    have := (zz_w_le.mp h1).2
    omega
  have hL : ∃ il', f_X13_word_L25 K tx wd wa (nI n) K (nI 0) (-1) il0 (nI p) 0 = some (-1, il', nI (p + zz_hi (zz_m t n p) 11), 1) := by
    refine zz_for0 (fun K' i (r : (Nat → Int32) × Int32 × Int32) => f_X13_word_L25 K tx wd wa (nI n) K' (nI i) (-1) r.1 r.2.1 r.2.2) (zz_hi (zz_m t n p) 11 + 1) (fun i r => (i ≤ zz_hi (zz_m t n p) 11 → r.2.1 = nI (p + i) ∧ r.2.2 = 0 ∧ ∀ j, j < 11 → r.1 j = zz_B (decide (i ≤ zz_w t n p j))) ∧ (i = zz_hi (zz_m t n p) 11 + 1 → r.2.1 = nI (p + zz_hi (zz_m t n p) 11) ∧ r.2.2 = 1)) (fun z => ∃ il', z = some (-1, il', nI (p + zz_hi (zz_m t n p) 11), 1)) ?_ ?_ K (il0, nI p, 0) (by omega) ⟨fun _ => ⟨rfl, rfl, fun j hj => (c2 j hj).trans (by rw [decide_eq_true (Nat.zero_le _)]; rfl)⟩, fun q => by omega⟩
    · intro r s g
      obtain ⟨g1, g2⟩ := g.2 rfl
      refine ⟨s.1, ?_⟩
      show f_X13_word_L25 K tx wd wa (nI n) (r + 1) (nI (zz_hi (zz_m t n p) 11 + 1)) (-1) s.1 s.2.1 s.2.2 = _
      rw [f_X13_word_L25, if_neg (by decide), g1, g2, if_neg (by decide)]
    · intro r i s hi g ih
      show ∃ il', f_X13_word_L25 K tx wd wa (nI n) (r + 1) (nI i) (-1) s.1 s.2.1 s.2.2 = some (-1, il', _, 1)
      obtain ⟨g1, g2, g3⟩ := g.1 (by omega)
      obtain ⟨il', d1, d2⟩ := zm_wL41 h hw hK hp (x := i) (by omega) g3
      rw [f_X13_word_L25, if_neg (by decide), g1, g2, if_pos rfl, d1, zz_b]
      by_cases e : i = zz_hi (zz_m t n p) 11
      · have hany : zz_an (fun j => decide (i + 1 ≤ zz_w t n p j)) 11 = false := zz_an_f.mpr (fun j hj => decide_eq_false (fun q => by
          have := zz_hi_ge (f := zz_m t n p) (i := 11) j hj
          rw [hwk j hj] at q
          omega))
        rw [hany, zz_Bf, if_pos rfl, if_pos rfl, nI_1, zm_wL167_n hw hK (by omega) d2 (hno i), zz_b, zz_l0, nI_add]
        exact ih (_, _, _) ⟨fun q => by omega, fun _ => ⟨by rw [e]; rfl, rfl⟩⟩
      · have hany : zz_an (fun j => decide (i + 1 ≤ zz_w t n p j)) 11 = true := by
          rcases zz_hi_in (f := zz_m t n p) (i := 11) with q | ⟨j, q1, q2⟩
          · omega
          · exact zz_an_t.mpr ⟨j, q1, decide_eq_true (by rw [hwk j q1]; omega)⟩
        rw [hany, zz_Bt, if_neg (show ¬ ((1 : Int32) = 0) by decide), if_neg (show ¬ ((1 : Int32) = 0) by decide), nI_1, nI_1, zm_wL167_n hw hK (by omega) d2 (hno i), zz_b]
        exact ih (_, _, _) ⟨fun _ => ⟨rfl, rfl, d2⟩, fun q => by omega⟩
  obtain ⟨il', hL⟩ := hL
  refine ⟨il', ?_⟩
  rw [f_X13_word, c1, zz_b]
  show (f_X13_word_L25 K tx wd wa (nI n) K (nI 0) (-1) il0 (nI p) 0).bind _ = _
  rw [hL]
  rfl
end ZWD
