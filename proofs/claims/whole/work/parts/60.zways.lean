-- tolls, and the calls that ask for ways
def zz_fgy (S : Nat → Nat) (c : Nat) : Bool := decide ((S 1 = 1 ∧ c % 9 < 4) ∨ (S 1 = 2 ∧ 4 < c % 9))
def zz_wf (S : Nat → Nat) (c : Nat) : Nat := if zz_fgy S c = true then 2 else 1
def zz_wr (S : Nat → Nat) (c : Nat) : Nat := if zz_i c = c then zz_st S c else zz_st S c + zz_st S (zz_i c)
theorem zz_st_le (S : Nat → Nat) (c : Nat) : zz_st S c ≤ 1 := by
  unfold zz_st
  split <;> omega
theorem zz_wf_le (S : Nat → Nat) : ∀ c, c < 81 → zz_wf S c ≤ 2 := fun c _ => by
  unfold zz_wf
  split <;> omega
theorem zz_wr_le (S : Nat → Nat) : ∀ c, c < 81 → zz_wr S c ≤ 2 := fun c _ => by
  unfold zz_wr
  have := zz_st_le S c
  have := zz_st_le S (zz_i c)
  split <;> omega
section ZWY
variable {S : Nat → Nat} {B K : Nat} {st nu ce fa : Nat → Int32} {fc nx to re me fg : Int32} {v : Nat → Int32}
theorem zc_plain (hs : ∀ c, c < 81 → st c = nI (S (7 + c))) (hr : ∀ c, c < 81 → S (7 + c) < 3) (hK : 100 ≤ K) (tl : Nat → Int32) : ∃ t, f_X11_setPlainTolls K tl st = some t ∧ zz_tl (zz_op S) (fun _ => 1) t := by
  have hL : ∃ t, f_X11_setPlainTolls_L2 st K (nI 0) tl = some t ∧ zz_tl (zz_op S) (fun _ => 1) t := by
    refine zz_for0 (fun K i (r : Nat → Int32) => f_X11_setPlainTolls_L2 st K (nI i) r) 81 (fun i r => ∀ c, c < i → r c = if zz_op S c = true then nI 1 else -1) (fun z => ∃ t, z = some t ∧ zz_tl (zz_op S) (fun _ => 1) t) ?_ ?_ K tl (by omega) (fun c hc => by omega)
    · intro k r h
      refine ⟨r, ?_, h⟩
      show f_X11_setPlainTolls_L2 st (k + 1) (nI 81) r = _
      rw [f_X11_setPlainTolls_L2, if_pos (by decide)]
    · intro k i r hi h ih
      show ∃ t, f_X11_setPlainTolls_L2 st (k + 1) (nI i) r = some t ∧ _
      have hset : ∀ z, (z = if zz_op S i = true then nI 1 else -1) → ∀ c, c < i + 1 → upd r i z c = if zz_op S c = true then nI 1 else -1 := by
        intro z hz c hc
        rw [zz_upd]
        by_cases e : c = i
        · rw [if_pos e, e, hz]
        · rw [if_neg e]; exact h c (by omega)
      rw [f_X11_setPlainTolls_L2, zz_l81, if_neg (nI_ge hi (by decide)), zc_isOpen hs hr hi, zz_b, zz_g hi (by decide), zz_g hi (by decide), nI_clamp (by omega), nI_1]
      cases ho : zz_op S i with
      | true =>
        rw [zz_Bt, if_neg (by decide)]
        exact ih _ (hset _ (by rw [ho]; rfl))
      | false =>
        rw [zz_Bf, if_pos (by first | rfl | decide)]
        exact ih _ (hset _ (by rw [ho]; rfl))
  obtain ⟨t, h1, h2⟩ := hL
  refine ⟨t, ?_, h2⟩
  rw [f_X11_setPlainTolls]
  show (f_X11_setPlainTolls_L2 st K (nI 0) tl).bind _ = _
  rw [h1]
  rfl
theorem zc_isFoggy (hf : S 1 ≤ 2) {c : Nat} (hc : c < 81) : f_X6_isFoggy (nI (S 1)) (nI c) = some (zz_B (zz_fgy S c)) := by
  rw [f_X6_isFoggy, zc_column c hc, zz_b, zz_b]
  unfold zz_fgy
  rcases (show S 1 = 0 ∨ S 1 = 1 ∨ S 1 = 2 by omega) with e | e | e
  · rw [e, if_neg (show ¬ nI 0 = 1 by decide), if_neg (show ¬ nI 0 = 2 by decide), decide_eq_false (by omega)]
    rfl
  · rw [e, if_pos (show nI 1 = 1 by decide), if_neg (show ¬ nI 1 = 2 by decide), zz_l4]
    by_cases g : c % 9 < 4
    · rw [if_pos (nI_lt g (by decide)), decide_eq_true (Or.inl ⟨rfl, g⟩)]
      rfl
    · rw [if_neg (nI_nlt (by omega) (by omega)), decide_eq_false (by omega)]
      rfl
  · rw [e, if_neg (show ¬ nI 2 = 1 by decide), if_pos (show nI 2 = 2 by decide), zz_l4]
    by_cases g : 4 < c % 9
    · rw [if_neg (nI_ge g (by omega)), decide_eq_true (Or.inr ⟨rfl, g⟩)]
      rfl
    · rw [if_pos (nI_le (by omega) (by decide)), decide_eq_false (by omega)]
      rfl
theorem zm_isFoggy (hM : zz_Pm S v) (hf : S 1 ≤ 2) {c : Nat} (hc : c < 81) : f_X13_isFoggy v (nI c) = some (zz_B (zz_fgy S c)) := by
  rw [f_X13_isFoggy, hM 1 (by decide), zz_l9, pk_rem (by omega) (by decide) (by decide)]
  unfold zz_fgy
  rcases (show S 1 = 0 ∨ S 1 = 1 ∨ S 1 = 2 by omega) with e | e | e
  · rw [e, if_neg (show ¬ nI 0 = 1 by decide), if_neg (show ¬ nI 0 = 2 by decide), decide_eq_false (by omega)]
    rfl
  · rw [e, if_pos (show nI 1 = 1 by decide), if_neg (show ¬ nI 1 = 2 by decide), zz_l4]
    by_cases g : c % 9 < 4
    · rw [if_pos (nI_lt g (by decide)), decide_eq_true (Or.inl ⟨rfl, g⟩)]
      rfl
    · rw [if_neg (nI_nlt (by omega) (by omega)), decide_eq_false (by omega)]
      rfl
  · rw [e, if_neg (show ¬ nI 2 = 1 by decide), if_pos (show nI 2 = 2 by decide), zz_l4]
    by_cases g : 4 < c % 9
    · rw [if_neg (nI_ge g (by omega)), decide_eq_true (Or.inr ⟨rfl, g⟩)]
      rfl
    · rw [if_pos (nI_le (by omega) (by decide)), decide_eq_false (by omega)]
      rfl
theorem zc_fogt (hs : ∀ c, c < 81 → st c = nI (S (7 + c))) (hr : ∀ c, c < 81 → S (7 + c) < 3) (hf : S 1 ≤ 2) (hK : 100 ≤ K) (tl : Nat → Int32) : ∃ t, f_X11_setFogTolls K tl st (nI (S 1)) = some t ∧ zz_tl (zz_op S) (zz_wf S) t := by
  have hL : ∃ t, f_X11_setFogTolls_L2 st (nI (S 1)) K (nI 0) tl = some t ∧ zz_tl (zz_op S) (zz_wf S) t := by
    refine zz_for0 (fun K i (r : Nat → Int32) => f_X11_setFogTolls_L2 st (nI (S 1)) K (nI i) r) 81 (fun i r => ∀ c, c < i → r c = if zz_op S c = true then nI (zz_wf S c) else -1) (fun z => ∃ t, z = some t ∧ zz_tl (zz_op S) (zz_wf S) t) ?_ ?_ K tl (by omega) (fun c hc => by omega)
    · intro k r h
      refine ⟨r, ?_, h⟩
      show f_X11_setFogTolls_L2 st (nI (S 1)) (k + 1) (nI 81) r = _
      rw [f_X11_setFogTolls_L2, if_pos (by decide)]
    · intro k i r hi h ih
      show ∃ t, f_X11_setFogTolls_L2 st (nI (S 1)) (k + 1) (nI i) r = some t ∧ _
      have hset : ∀ z, (z = if zz_op S i = true then nI (zz_wf S i) else -1) → ∀ c, c < i + 1 → upd r i z c = if zz_op S c = true then nI (zz_wf S c) else -1 := by
        intro z hz c hc
        rw [zz_upd]
        by_cases e : c = i
        · rw [if_pos e, e, hz]
        · rw [if_neg e]; exact h c (by omega)
      rw [f_X11_setFogTolls_L2, zz_l81, if_neg (nI_ge hi (by decide)), zc_isFoggy hf hi, zz_b, zc_isOpen hs hr hi, zz_b, zz_b, zz_g hi (by decide), zz_g hi (by decide), zz_g hi (by decide), nI_clamp (by omega), nI_1]
      cases hg : zz_fgy S i with
      | true =>
        rw [zz_Bt, if_neg (show ¬ ((1 : Int32) = 0) by decide)]
        cases ho : zz_op S i with
        | true =>
          rw [zz_Bt, if_neg (show ¬ ((1 : Int32) = 0) by decide)]
          exact ih _ (hset _ (by rw [ho, if_pos rfl]; unfold zz_wf; rw [hg]; rfl))
        | false =>
          rw [zz_Bf, if_pos rfl]
          exact ih _ (hset _ (by rw [ho]; rfl))
      | false =>
        rw [zz_Bf, if_pos rfl]
        cases ho : zz_op S i with
        | true =>
          rw [zz_Bt, if_neg (show ¬ ((1 : Int32) = 0) by decide)]
          exact ih _ (hset _ (by rw [ho, if_pos rfl]; unfold zz_wf; rw [hg]; rfl))
        | false =>
          rw [zz_Bf, if_pos rfl]
          exact ih _ (hset _ (by rw [ho]; rfl))
  obtain ⟨t, h1, h2⟩ := hL
  refine ⟨t, ?_, h2⟩
  rw [f_X11_setFogTolls]
  show (f_X11_setFogTolls_L2 st (nI (S 1)) K (nI 0) tl).bind _ = _
  rw [h1]
  rfl
theorem zc_reedt (hs : ∀ c, c < 81 → st c = nI (S (7 + c))) (hr : ∀ c, c < 81 → S (7 + c) < 3) (hK : 100 ≤ K) (tl : Nat → Int32) : ∃ t, f_X11_setReedTolls K tl st = some t ∧ zz_tl (fun _ => true) (zz_wr S) t := by
  have hL : ∃ t, f_X11_setReedTolls_L2 st K (nI 0) tl = some t ∧ zz_tl (fun _ => true) (zz_wr S) t := by
    refine zz_for0 (fun K i (r : Nat → Int32) => f_X11_setReedTolls_L2 st K (nI i) r) 81 (fun i r => ∀ c, c < i → r c = nI (zz_wr S c)) (fun z => ∃ t, z = some t ∧ zz_tl (fun _ => true) (zz_wr S) t) ?_ ?_ K tl (by omega) (fun c hc => by omega)
    · intro k r h
      refine ⟨r, ?_, fun c hc => by rw [if_pos rfl]; exact h c hc⟩
      show f_X11_setReedTolls_L2 st (k + 1) (nI 81) r = _
      rw [f_X11_setReedTolls_L2, if_pos (by decide)]
    · intro k i r hi h ih
      show ∃ t, f_X11_setReedTolls_L2 st (k + 1) (nI i) r = some t ∧ _
      rw [f_X11_setReedTolls_L2, zz_l81, if_neg (nI_ge hi (by decide)), zc_standingInPair hs hr hi, zz_b, zz_g hi (by decide), nI_clamp (by omega), nI_1]
      refine ih _ (fun c hc => ?_)
      rw [zz_upd]
      by_cases e : c = i
      · rw [if_pos e, e]; rfl
      · rw [if_neg e]; exact h c (by omega)
  obtain ⟨t, h1, h2⟩ := hL
  refine ⟨t, ?_, h2⟩
  rw [f_X11_setReedTolls]
  show (f_X11_setReedTolls_L2 st K (nI 0) tl).bind _ = _
  rw [h1]
  rfl
theorem zm_by0 (hM : zz_Pm S v) (hr : ∀ c, c < 81 → S (7 + c) < 3) : zz_by S (zz_op S) (fun _ => 1) v 0 :=
  ⟨fun c _ => by rw [f_X13_costs, if_pos rfl]; rfl, Or.inr ⟨by decide, fun c hc => zm_isFree hM hr hc⟩⟩
theorem zm_by1 (hM : zz_Pm S v) (hr : ∀ c, c < 81 → S (7 + c) < 3) (hf : S 1 ≤ 2) : zz_by S (zz_op S) (zz_wf S) v 1 :=
  ⟨fun c hc => by
    rw [f_X13_costs, if_neg (by decide), if_pos rfl, zm_isFoggy hM hf hc, zz_b]
    unfold zz_wf
    cases zz_fgy S c <;> rfl, Or.inr ⟨by decide, fun c hc => zm_isFree hM hr hc⟩⟩
theorem zm_by2 (hM : zz_Pm S v) (hr : ∀ c, c < 81 → S (7 + c) < 3) : zz_by S (fun _ => true) (zz_wr S) v 2 :=
  ⟨fun c hc => by
    have h2 := zz_i_lt c hc
    rw [f_X13_costs, if_neg (by decide), if_neg (by decide), f_X13_reeds, zm_stands hM hr hc, zz_b, zm_image c hc, zz_b, zz_b, zm_stands hM hr h2, zz_b, nI_add, zz_l0, nI_add]
    unfold zz_wr
    by_cases e : zz_i c = c
    · rw [if_pos (congrArg nI e), if_pos e]; rfl
    · rw [if_neg (zz_ne e (by omega) (by omega)), if_neg e]; rfl, Or.inl ⟨by decide, fun _ _ => rfl⟩⟩
/-- the model's way, once the two rows are known -/
theorem zm_way {o : Nat → Bool} {w : Nat → Nat} {y : Int32} (hK : 9000000 ≤ K) (hM : zz_Pm S v) (ib : zz_Ib B S) (hy : zz_by S o w v y) (hw : ∀ c, c < 81 → w c ≤ 2) (far : Nat → Int32) {b : Nat} {x : Int32} (hf : zz_fd S x = some b) {c : Nat} (hc : c < 81) {x2 x3 : Int32} (h2 : f_X13_isCell x2 x3 = some 1) (h3 : f_X13_cell x2 x3 = some (nI c)) : ∃ f, zz_is o w (zz_c S b) 100000 f ∧ f_X13_way K v far x x2 x3 y = some (if f c = 100000 then (0, 1, f) else (f c, 0, f)) := by
  obtain ⟨hb, _, _⟩ := zz_fi_some hf
  have h4 := ib.2.1
  have hfind := zm_find (K := K) hM h4 (by omega) x
  rw [hf, zz_os] at hfind
  obtain ⟨f, g1, g2⟩ := zm_reaches hK hy hw (zz_Ib_c ib hb) far
  refine ⟨f, g2, ?_⟩
  rw [f_X13_way, hfind, zz_b, if_pos (nI_pos' (by omega)), h2, zz_b, if_neg (by decide), zm_where hM (by omega), zz_b, g1, zz_b, h3, zz_b, zz_g hc (by decide), nI_clamp (by omega)]
  split <;> rfl
theorem zm_way_n {y : Int32} (hK : 9000000 ≤ K) (hM : zz_Pm S v) (ib : zz_Ib B S) (far : Nat → Int32) {x : Int32} (hf : zz_fd S x = none) (x2 x3 : Int32) : f_X13_way K v far x x2 x3 y = some (0, 1, far) := by
  have hfind := zm_find (K := K) hM ib.2.1 (by omega) x
  rw [hf, zz_on] at hfind
  rw [f_X13_way, hfind, zz_b, if_neg (by decide)]
  rfl
theorem zm_way_c {y : Int32} (hK : 9000000 ≤ K) (hM : zz_Pm S v) (ib : zz_Ib B S) (far : Nat → Int32) {x : Int32} {b : Nat} (hf : zz_fd S x = some b) {x2 x3 : Int32} (h2 : f_X13_isCell x2 x3 = some 0) : f_X13_way K v far x x2 x3 y = some (0, 2, far) := by
  obtain ⟨hb, _, _⟩ := zz_fi_some hf
  have h4 := ib.2.1
  have hfind := zm_find (K := K) hM h4 (by omega) x
  rw [hf, zz_os] at hfind
  rw [f_X13_way, hfind, zz_b, if_pos (nI_pos' (by omega)), h2, zz_b, if_pos rfl]
  rfl
/-- what the two sides say of a way: the class's exception or answer, the reference's -/
def zz_wo (cc : Nat) (cv r e : Int32) : Prop := (cc = 0 ∧ e = 0 ∧ cv = r) ∨ (cc = 2 ∧ e = 1) ∨ (cc = 1 ∧ e = 2)
theorem zc_place_n (p1 : ∀ b, b < S 3 → nu b = nI (S (88 + 4 * b))) (h4 : S 3 ≤ 4) (hK : 10 ≤ K) {x : Int32} (hf : zz_fd S x = none) : f_X12_existingPlace K nu (nI (S 3)) x = some (2, 0) := by
  have h := zc_placeOf (K := K) (nu := nu) p1 h4 hK x
  rw [hf, zz_on] at h
  rw [f_X12_existingPlace, h]
  rfl
theorem zc_place_y (p1 : ∀ b, b < S 3 → nu b = nI (S (88 + 4 * b))) (h4 : S 3 ≤ 4) (hK : 10 ≤ K) {x : Int32} {b : Nat} (hf : zz_fd S x = some b) : f_X12_existingPlace K nu (nI (S 3)) x = some (0, nI b) := by
  have h := zc_placeOf (K := K) (nu := nu) p1 h4 hK x
  obtain ⟨hb, _, _⟩ := zz_fi_some hf
  rw [hf, zz_os] at h
  rw [f_X12_existingPlace, h, zz_b, if_neg (zz_n1 (by omega))]
theorem zc_excell_n {x y : Int32} (h : f_X12_cellAt x y = some (-1)) : f_X12_existingCell x y = some (1, 0) := by
  rw [f_X12_existingCell, h]
  rfl
theorem zc_excell_y {x y : Int32} {c : Nat} (hc : c < 81) (h : f_X12_cellAt x y = some (nI c)) : f_X12_existingCell x y = some (0, nI c) := by
  rw [f_X12_existingCell, h, zz_b, if_neg (zz_n1 (by omega))]
theorem zc_reached_y {d : Nat} (h : d ≤ 200) : f_X12_reached (nI d) = some (0, nI d) := by
  rw [f_X12_reached, zz_l1000000, if_pos (nI_lt (by omega) (by decide))]
theorem zc_reached_n : f_X12_reached (nI 1000000) = some (2, 0) := by decide
/-- every cell can be come to when all are open -/
theorem zz_all0 {w : Nat → Nat} : ∀ c, c < 81 → (∃ n d, zz_wk (fun _ => true) w 0 n d c) ∧ ∃ n d, zz_wk (fun _ => true) w c n d 0 := by
  intro c
  induction c using Nat.strongRecOn with
  | ind c ih =>
    intro hc
    by_cases e : c = 0
    · subst e
      exact ⟨⟨0, 0, rfl, rfl⟩, ⟨0, 0, rfl, rfl⟩⟩
    · have hex : ∃ c' m, c' < c ∧ m < 4 ∧ zz_nb c m = some c' := by
        by_cases g : 0 < c % 9
        · exact ⟨c - 1, 2, by omega, by decide, by show (if 0 < c % 9 then some (c - 1) else none) = _; rw [if_pos g]⟩
        · exact ⟨c - 9, 1, by omega, by decide, by show (if 0 < c / 9 then some (c - 9) else none) = _; rw [if_pos (by omega)]⟩
      obtain ⟨c', m, h1, h2, h3⟩ := hex
      obtain ⟨⟨n1, d1, g1⟩, ⟨n2, d2, g2⟩⟩ := ih c' h1 (by omega)
      obtain ⟨e1, e2⟩ := zz_nb_s hc h2 h3
      exact ⟨⟨n1 + 1, d1 + w c, c', d1, zz_opp m, e2, zz_opp_lt m h2, g1, e1, rfl, rfl⟩, ⟨_, _, zz_wk_cat (zz_wk_1 hc h2 h3 rfl) g2⟩⟩
theorem zz_all {w : Nat → Nat} {s c : Nat} (hs : s < 81) (hc : c < 81) : ∃ n d, zz_wk (fun _ => true) w s n d c := by
  obtain ⟨n1, d1, h1⟩ := (zz_all0 (w := w) s hs).2
  obtain ⟨n2, d2, h2⟩ := (zz_all0 (w := w) c hc).1
  exact ⟨_, _, zz_wk_cat h1 h2⟩
theorem zp_wayL (hK : 9000000 ≤ K) (hs : ∀ c, c < 81 → st c = nI (S (7 + c))) (ir : zz_Ir S) (ib : zz_Ib B S) (io : zz_Io S) (pb : zz_Pb S nu ce fa fc nx to re me) (hM : zz_Pm S v) (tl qu fo far : Nat → Int32) (x x2 x3 : Int32) : ∃ cc cv t q f r e far', f_X12_wayLength K st nu ce fc tl qu fo x x2 x3 = some (cc, cv, t, q, f) ∧ f_X13_wayLength K v far x x2 x3 = some (r, e, far') ∧ zz_wo cc cv r e := by
  obtain ⟨p1, p2, p3, rfl, p5, p6, p7, p8⟩ := pb
  have h4 := ib.2.1
  cases hf : zz_fd S x with
  | none =>
    refine ⟨2, 0, tl, qu, fo, 0, 1, far, ?_, ?_, Or.inr (Or.inl ⟨rfl, rfl⟩)⟩
    · rw [f_X12_wayLength, zc_place_n p1 h4 (by omega) hf, zz_b, if_neg (show ¬ ((2 : Nat) = 0) by decide)]
    · rw [f_X13_wayLength, zm_way_n hK hM ib far hf]
      rfl
  | some b =>
    obtain ⟨hb, _, _⟩ := zz_fi_some hf
    rcases zz_cell x2 x3 with ⟨h1, h2⟩ | ⟨a, y, ha, hy, rfl, rfl, h1, h2, h3⟩
    · refine ⟨1, 0, tl, qu, fo, 0, 2, far, ?_, ?_, Or.inr (Or.inr ⟨rfl, rfl⟩)⟩
      · rw [f_X12_wayLength, zc_place_y p1 h4 (by omega) hf, zz_b, if_pos rfl, zz_g (by omega) (by decide), zc_excell_n h1, zz_b, if_neg (show ¬ ((1 : Nat) = 0) by decide)]
      · rw [f_X13_wayLength, zm_way_c hK hM ib far hf h2]
        rfl
    · have hc : 9 * y + a < 81 := by omega
      obtain ⟨t, t1, t2⟩ := zc_plain (K := K) hs ir.2.2 (by omega) tl
      obtain ⟨q, f, q1, q2, _⟩ := zc_breadth (K := K) (by omega) t2 (zz_Ib_c ib hb) qu fo
      obtain ⟨f', g1, g2⟩ := zm_way (far := far) hK hM ib (zm_by0 hM ir.2.2) (fun _ _ => by decide) hf hc h2 h3
      have hcl : ∀ z, f_X12_reached (f (9 * y + a)) = some z → f_X12_wayLength K st nu ce (nI (S 3)) tl qu fo x (nI a) (nI y) = some (if z.1 = 0 then (0, z.2, t, q, f) else (z.1, 0, t, q, f)) := by
        intro z hz
        rw [f_X12_wayLength, zc_place_y p1 h4 (by omega) hf, zz_b, if_pos rfl, zz_g (by omega) (by decide), zc_excell_y hc h1, zz_b, if_pos rfl, t1, zz_b, nI_clamp (by omega), p2 b hb, q1, zz_b, zz_g hc (by decide), nI_clamp (by omega), hz, zz_b]
        split <;> rfl
      rcases zz_is_eq (q2 (io b hb)) g1 hc with ⟨d, d1, d2, d3, _⟩ | ⟨d1, d2, _⟩
      · rw [d2] at hcl
        refine ⟨0, nI d, t, q, f, nI d, 0, f', hcl _ (zc_reached_y d1), ?_, Or.inl ⟨rfl, rfl, rfl⟩⟩
        rw [f_X13_wayLength, g2, d3, zz_l100000, if_neg (zz_ne (by omega) (by omega) (by decide))]
        rfl
      · rw [d1] at hcl
        refine ⟨2, 0, t, q, f, 0, 1, f', hcl _ zc_reached_n, ?_, Or.inr (Or.inl ⟨rfl, rfl⟩)⟩
        rw [f_X13_wayLength, g2, d2, if_pos (show nI 100000 = 100000 from rfl)]
        rfl
theorem zp_wayR (hK : 9000000 ≤ K) (hs : ∀ c, c < 81 → st c = nI (S (7 + c))) (ir : zz_Ir S) (ib : zz_Ib B S) (io : zz_Io S) (pb : zz_Pb S nu ce fa fc nx to re me) (hM : zz_Pm S v) (tl im far : Nat → Int32) (x x2 x3 : Int32) : ∃ cc cv t f r e far', f_X12_wayLengthByRounds K st nu ce fc tl im x x2 x3 = some (cc, cv, t, f) ∧ f_X13_wayLengthByRounds K v far x x2 x3 = some (r, e, far') ∧ zz_wo cc cv r e := by
  obtain ⟨p1, p2, p3, rfl, p5, p6, p7, p8⟩ := pb
  have h4 := ib.2.1
  cases hf : zz_fd S x with
  | none =>
    refine ⟨2, 0, tl, im, 0, 1, far, ?_, ?_, Or.inr (Or.inl ⟨rfl, rfl⟩)⟩
    · rw [f_X12_wayLengthByRounds, zc_place_n p1 h4 (by omega) hf, zz_b, if_neg (show ¬ ((2 : Nat) = 0) by decide)]
    · rw [f_X13_wayLengthByRounds, zm_way_n hK hM ib far hf]
      rfl
  | some b =>
    obtain ⟨hb, _, _⟩ := zz_fi_some hf
    rcases zz_cell x2 x3 with ⟨h1, h2⟩ | ⟨a, y, ha, hy, rfl, rfl, h1, h2, h3⟩
    · refine ⟨1, 0, tl, im, 0, 2, far, ?_, ?_, Or.inr (Or.inr ⟨rfl, rfl⟩)⟩
      · rw [f_X12_wayLengthByRounds, zc_place_y p1 h4 (by omega) hf, zz_b, if_pos rfl, zz_g (by omega) (by decide), zc_excell_n h1, zz_b, if_neg (show ¬ ((1 : Nat) = 0) by decide)]
      · rw [f_X13_wayLengthByRounds, zm_way_c hK hM ib far hf h2]
        rfl
    · have hc : 9 * y + a < 81 := by omega
      obtain ⟨t, t1, t2⟩ := zc_plain (K := K) hs ir.2.2 (by omega) tl
      obtain ⟨f, q1, q2⟩ := zc_rounds (K := K) (by omega) t2 (fun _ _ => by decide) (zz_Ib_c ib hb) (io b hb) im
      obtain ⟨f', g1, g2⟩ := zm_way (far := far) hK hM ib (zm_by0 hM ir.2.2) (fun _ _ => by decide) hf hc h2 h3
      have hcl : ∀ z, f_X12_reached (f (9 * y + a)) = some z → f_X12_wayLengthByRounds K st nu ce (nI (S 3)) tl im x (nI a) (nI y) = some (if z.1 = 0 then (0, z.2, t, f) else (z.1, 0, t, f)) := by
        intro z hz
        rw [f_X12_wayLengthByRounds, zc_place_y p1 h4 (by omega) hf, zz_b, if_pos rfl, zz_g (by omega) (by decide), zc_excell_y hc h1, zz_b, if_pos rfl, t1, zz_b, nI_clamp (by omega), p2 b hb, q1, zz_b, zz_g hc (by decide), nI_clamp (by omega), hz, zz_b]
        split <;> rfl
      rcases zz_is_eq q2 g1 hc with ⟨d, d1, d2, d3, _⟩ | ⟨d1, d2, _⟩
      · rw [d2] at hcl
        refine ⟨0, nI d, t, f, nI d, 0, f', hcl _ (zc_reached_y d1), ?_, Or.inl ⟨rfl, rfl, rfl⟩⟩
        rw [f_X13_wayLengthByRounds, g2, d3, zz_l100000, if_neg (zz_ne (by omega) (by omega) (by decide))]
        rfl
      · rw [d1] at hcl
        refine ⟨2, 0, t, f, 0, 1, f', hcl _ zc_reached_n, ?_, Or.inr (Or.inl ⟨rfl, rfl⟩)⟩
        rw [f_X13_wayLengthByRounds, g2, d2, if_pos (show nI 100000 = 100000 from rfl)]
        rfl
theorem zp_wayC (hK : 9000000 ≤ K) (hs : ∀ c, c < 81 → st c = nI (S (7 + c))) (ir : zz_Ir S) (ib : zz_Ib B S) (io : zz_Io S) (hfg : zz_If S) (pf : zz_Pf S fg) (pb : zz_Pb S nu ce fa fc nx to re me) (hM : zz_Pm S v) (tl hp fo far : Nat → Int32) (hz : Int32) (x x2 x3 : Int32) : ∃ cc cv t q n f r e far', f_X12_wayCost K st nu ce fc fg tl hp hz fo x x2 x3 = some (cc, cv, t, q, n, f) ∧ f_X13_wayCost K v far x x2 x3 = some (r, e, far') ∧ zz_wo cc cv r e := by
  obtain ⟨p1, p2, p3, rfl, p5, p6, p7, p8⟩ := pb
  have h4 := ib.2.1
  have pf : fg = nI (S 1) := pf
  subst pf
  cases hf : zz_fd S x with
  | none =>
    refine ⟨2, 0, tl, hp, hz, fo, 0, 1, far, ?_, ?_, Or.inr (Or.inl ⟨rfl, rfl⟩)⟩
    · rw [f_X12_wayCost, zc_place_n p1 h4 (by omega) hf, zz_b, if_neg (show ¬ ((2 : Nat) = 0) by decide)]
    · rw [f_X13_wayCost, zm_way_n hK hM ib far hf]
      rfl
  | some b =>
    obtain ⟨hb, _, _⟩ := zz_fi_some hf
    rcases zz_cell x2 x3 with ⟨h1, h2⟩ | ⟨a, y, ha, hy, rfl, rfl, h1, h2, h3⟩
    · refine ⟨1, 0, tl, hp, hz, fo, 0, 2, far, ?_, ?_, Or.inr (Or.inr ⟨rfl, rfl⟩)⟩
      · rw [f_X12_wayCost, zc_place_y p1 h4 (by omega) hf, zz_b, if_pos rfl, zz_g (by omega) (by decide), zc_excell_n h1, zz_b, if_neg (show ¬ ((1 : Nat) = 0) by decide)]
      · rw [f_X13_wayCost, zm_way_c hK hM ib far hf h2]
        rfl
    · have hc : 9 * y + a < 81 := by omega
      obtain ⟨t, t1, t2⟩ := zc_fogt (K := K) hs ir.2.2 hfg (by omega) tl
      obtain ⟨q, n, f, q1, q2⟩ := zc_heap (K := K) (by omega) t2 (zz_wf_le S) (zz_Ib_c ib hb) (io b hb) hp fo
      obtain ⟨f', g1, g2⟩ := zm_way (far := far) hK hM ib (zm_by1 hM ir.2.2 hfg) (zz_wf_le S) hf hc h2 h3
      have hcl : ∀ z, f_X12_reached (f (9 * y + a)) = some z → f_X12_wayCost K st nu ce (nI (S 3)) (nI (S 1)) tl hp hz fo x (nI a) (nI y) = some (if z.1 = 0 then (0, z.2, t, q, n, f) else (z.1, 0, t, q, n, f)) := by
        intro z hz
        rw [f_X12_wayCost, zc_place_y p1 h4 (by omega) hf, zz_b, if_pos rfl, zz_g (by omega) (by decide), zc_excell_y hc h1, zz_b, if_pos rfl, t1, zz_b, nI_clamp (by omega), p2 b hb, q1, zz_b, zz_g hc (by decide), nI_clamp (by omega), hz, zz_b]
        split <;> rfl
      rcases zz_is_eq q2 g1 hc with ⟨d, d1, d2, d3, _⟩ | ⟨d1, d2, _⟩
      · rw [d2] at hcl
        refine ⟨0, nI d, t, q, n, f, nI d, 0, f', hcl _ (zc_reached_y d1), ?_, Or.inl ⟨rfl, rfl, rfl⟩⟩
        rw [f_X13_wayCost, g2, d3, zz_l100000, if_neg (zz_ne (by omega) (by omega) (by decide))]
        rfl
      · rw [d1] at hcl
        refine ⟨2, 0, t, q, n, f, 0, 1, f', hcl _ zc_reached_n, ?_, Or.inr (Or.inl ⟨rfl, rfl⟩)⟩
        rw [f_X13_wayCost, g2, d2, if_pos (show nI 100000 = 100000 from rfl)]
        rfl
theorem zp_wayCR (hK : 9000000 ≤ K) (hs : ∀ c, c < 81 → st c = nI (S (7 + c))) (ir : zz_Ir S) (ib : zz_Ib B S) (io : zz_Io S) (hfg : zz_If S) (pf : zz_Pf S fg) (pb : zz_Pb S nu ce fa fc nx to re me) (hM : zz_Pm S v) (tl im far : Nat → Int32) (x x2 x3 : Int32) : ∃ cc cv t f r e far', f_X12_wayCostByRounds K st nu ce fc fg tl im x x2 x3 = some (cc, cv, t, f) ∧ f_X13_wayCostByRounds K v far x x2 x3 = some (r, e, far') ∧ zz_wo cc cv r e := by
  obtain ⟨p1, p2, p3, rfl, p5, p6, p7, p8⟩ := pb
  have h4 := ib.2.1
  have pf : fg = nI (S 1) := pf
  subst pf
  cases hf : zz_fd S x with
  | none =>
    refine ⟨2, 0, tl, im, 0, 1, far, ?_, ?_, Or.inr (Or.inl ⟨rfl, rfl⟩)⟩
    · rw [f_X12_wayCostByRounds, zc_place_n p1 h4 (by omega) hf, zz_b, if_neg (show ¬ ((2 : Nat) = 0) by decide)]
    · rw [f_X13_wayCostByRounds, zm_way_n hK hM ib far hf]
      rfl
  | some b =>
    obtain ⟨hb, _, _⟩ := zz_fi_some hf
    rcases zz_cell x2 x3 with ⟨h1, h2⟩ | ⟨a, y, ha, hy, rfl, rfl, h1, h2, h3⟩
    · refine ⟨1, 0, tl, im, 0, 2, far, ?_, ?_, Or.inr (Or.inr ⟨rfl, rfl⟩)⟩
      · rw [f_X12_wayCostByRounds, zc_place_y p1 h4 (by omega) hf, zz_b, if_pos rfl, zz_g (by omega) (by decide), zc_excell_n h1, zz_b, if_neg (show ¬ ((1 : Nat) = 0) by decide)]
      · rw [f_X13_wayCostByRounds, zm_way_c hK hM ib far hf h2]
        rfl
    · have hc : 9 * y + a < 81 := by omega
      obtain ⟨t, t1, t2⟩ := zc_fogt (K := K) hs ir.2.2 hfg (by omega) tl
      obtain ⟨f, q1, q2⟩ := zc_rounds (K := K) (by omega) t2 (zz_wf_le S) (zz_Ib_c ib hb) (io b hb) im
      obtain ⟨f', g1, g2⟩ := zm_way (far := far) hK hM ib (zm_by1 hM ir.2.2 hfg) (zz_wf_le S) hf hc h2 h3
      have hcl : ∀ z, f_X12_reached (f (9 * y + a)) = some z → f_X12_wayCostByRounds K st nu ce (nI (S 3)) (nI (S 1)) tl im x (nI a) (nI y) = some (if z.1 = 0 then (0, z.2, t, f) else (z.1, 0, t, f)) := by
        intro z hz
        rw [f_X12_wayCostByRounds, zc_place_y p1 h4 (by omega) hf, zz_b, if_pos rfl, zz_g (by omega) (by decide), zc_excell_y hc h1, zz_b, if_pos rfl, t1, zz_b, nI_clamp (by omega), p2 b hb, q1, zz_b, zz_g hc (by decide), nI_clamp (by omega), hz, zz_b]
        split <;> rfl
      rcases zz_is_eq q2 g1 hc with ⟨d, d1, d2, d3, _⟩ | ⟨d1, d2, _⟩
      · rw [d2] at hcl
        refine ⟨0, nI d, t, f, nI d, 0, f', hcl _ (zc_reached_y d1), ?_, Or.inl ⟨rfl, rfl, rfl⟩⟩
        rw [f_X13_wayCostByRounds, g2, d3, zz_l100000, if_neg (zz_ne (by omega) (by omega) (by decide))]
        rfl
      · rw [d1] at hcl
        refine ⟨2, 0, t, f, 0, 1, f', hcl _ zc_reached_n, ?_, Or.inr (Or.inl ⟨rfl, rfl⟩)⟩
        rw [f_X13_wayCostByRounds, g2, d2, if_pos (show nI 100000 = 100000 from rfl)]
        rfl
theorem zp_wayE (hK : 9000000 ≤ K) (hs : ∀ c, c < 81 → st c = nI (S (7 + c))) (ir : zz_Ir S) (ib : zz_Ib B S) (pb : zz_Pb S nu ce fa fc nx to re me) (hM : zz_Pm S v) (tl hp fo far : Nat → Int32) (hz : Int32) (x x2 x3 : Int32) : ∃ cc cv t q n f r e far', f_X12_breakingEffort K st nu ce fc tl hp hz fo x x2 x3 = some (cc, cv, t, q, n, f) ∧ f_X13_breakingEffort K v far x x2 x3 = some (r, e, far') ∧ zz_wo cc cv r e := by
  obtain ⟨p1, p2, p3, rfl, p5, p6, p7, p8⟩ := pb
  have h4 := ib.2.1
  cases hf : zz_fd S x with
  | none =>
    refine ⟨2, 0, tl, hp, hz, fo, 0, 1, far, ?_, ?_, Or.inr (Or.inl ⟨rfl, rfl⟩)⟩
    · rw [f_X12_breakingEffort, zc_place_n p1 h4 (by omega) hf, zz_b, if_neg (show ¬ ((2 : Nat) = 0) by decide)]
    · rw [f_X13_breakingEffort, zm_way_n hK hM ib far hf]
      rfl
  | some b =>
    obtain ⟨hb, _, _⟩ := zz_fi_some hf
    rcases zz_cell x2 x3 with ⟨h1, h2⟩ | ⟨a, y, ha, hy, rfl, rfl, h1, h2, h3⟩
    · refine ⟨1, 0, tl, hp, hz, fo, 0, 2, far, ?_, ?_, Or.inr (Or.inr ⟨rfl, rfl⟩)⟩
      · rw [f_X12_breakingEffort, zc_place_y p1 h4 (by omega) hf, zz_b, if_pos rfl, zz_g (by omega) (by decide), zc_excell_n h1, zz_b, if_neg (show ¬ ((1 : Nat) = 0) by decide)]
      · rw [f_X13_breakingEffort, zm_way_c hK hM ib far hf h2]
        rfl
    · have hc : 9 * y + a < 81 := by omega
      obtain ⟨t, t1, t2⟩ := zc_reedt (K := K) hs ir.2.2 (by omega) tl
      obtain ⟨q, n, f, q1, q2⟩ := zc_heap (K := K) (by omega) t2 (zz_wr_le S) (zz_Ib_c ib hb) rfl hp fo
      obtain ⟨f', g1, g2⟩ := zm_way (far := far) hK hM ib (zm_by2 hM ir.2.2) (zz_wr_le S) hf hc h2 h3
      rcases zz_is_eq q2 g1 hc with ⟨d, d1, d2, d3, _⟩ | ⟨_, _, d1⟩
      · refine ⟨0, nI d, t, q, n, f, nI d, 0, f', ?_, ?_, Or.inl ⟨rfl, rfl, rfl⟩⟩
        · rw [f_X12_breakingEffort, zc_place_y p1 h4 (by omega) hf, zz_b, if_pos rfl, zz_g (by omega) (by decide), zc_excell_y hc h1, zz_b, if_pos rfl, t1, zz_b, nI_clamp (by omega), p2 b hb, q1, zz_b, zz_g hc (by decide), nI_clamp (by omega)]
          show some (0, f (9 * y + a), t, q, n, f) = _
          rw [d2]
        · rw [f_X13_breakingEffort, g2, d3, zz_l100000, if_neg (zz_ne (by omega) (by omega) (by decide))]
          rfl
      · obtain ⟨n', d', h⟩ := zz_all (w := zz_wr S) (zz_Ib_c ib hb) hc
        exact absurd h (d1 n' d')
end ZWY
