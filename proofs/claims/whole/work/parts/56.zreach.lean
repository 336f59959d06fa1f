-- the reference's search
def zz_mn (g : Nat → Nat) (L : Nat) : Option Nat → Nat
  | some d => if L ≤ g d then L else g d
  | none => L
section ZRE
variable {S : Nat → Nat} {o : Nat → Bool} {w : Nat → Nat} {s K : Nat} {far : Nat → Int32} {v : Nat → Int32} {g : Nat → Nat}
theorem zm_B84 (hf : ∀ j, j < 81 → far j = nI (g j)) (hg : ∀ j, j < 81 → g j ≤ 100000) {c L : Nat} (hc : c < 81) (hL : L ≤ 100000) : f_X13_reaches_B84 far (nI c) (nI (c % 9)) (nI L) = some (nI (zz_mn g L (zz_nb c 2))) := by
  have hn : zz_nb c 2 = if 0 < c % 9 then some (c - 1) else none := rfl
  rw [f_X13_reaches_B84, hn]
  by_cases e : 0 < c % 9
  · have := hg (c - 1) (by omega)
    rw [if_neg (nI_nle e (by omega)), if_pos e, zz_l1, pk_sub (by omega), zz_g (by omega) (by decide), nI_clamp (by omega), hf _ (by omega), zz_mn]
    by_cases q : L ≤ g (c - 1)
    · rw [if_pos (nI_le q (by omega)), if_pos q]
    · rw [if_neg (nI_ge (by omega) (by omega)), if_neg q, zz_g (by omega) (by decide)]
  · rw [if_pos (by rw [show c % 9 = 0 by omega]; decide), if_neg e]
    rfl
theorem zm_B114 (hf : ∀ j, j < 81 → far j = nI (g j)) (hg : ∀ j, j < 81 → g j ≤ 100000) {c L : Nat} (hc : c < 81) (hL : L ≤ 100000) : f_X13_reaches_B114 far (nI c) (nI (c % 9)) (nI L) = some (nI (zz_mn g L (zz_nb c 3))) := by
  have hn : zz_nb c 3 = if c % 9 < 8 then some (c + 1) else none := rfl
  rw [f_X13_reaches_B114, hn]
  by_cases e : c % 9 < 8
  · have := hg (c + 1) (by omega)
    rw [zz_l8, if_neg (nI_ge e (by decide)), if_pos e, nI_1, zz_g (by omega) (by decide), nI_clamp (by omega), hf _ (by omega), zz_mn]
    by_cases q : L ≤ g (c + 1)
    · rw [if_pos (nI_le q (by omega)), if_pos q]
    · rw [if_neg (nI_ge (by omega) (by omega)), if_neg q, zz_g (by omega) (by decide)]
  · rw [if_pos (by rw [show c % 9 = 8 by omega]; decide), if_neg e]
    rfl
theorem zm_B146 (hf : ∀ j, j < 81 → far j = nI (g j)) (hg : ∀ j, j < 81 → g j ≤ 100000) {c L : Nat} (hc : c < 81) (hL : L ≤ 100000) : f_X13_reaches_B146 far (nI c) (nI (c / 9)) (nI L) = some (nI (zz_mn g L (zz_nb c 1))) := by
  have hn : zz_nb c 1 = if 0 < c / 9 then some (c - 9) else none := rfl
  rw [f_X13_reaches_B146, hn]
  by_cases e : 0 < c / 9
  · have := hg (c - 9) (by omega)
    rw [if_neg (nI_nle e (by omega)), if_pos e, zz_l9, pk_sub (by omega), zz_g (by omega) (by decide), nI_clamp (by omega), hf _ (by omega), zz_mn]
    by_cases q : L ≤ g (c - 9)
    · rw [if_pos (nI_le q (by omega)), if_pos q]
    · rw [if_neg (nI_ge (by omega) (by omega)), if_neg q, zz_g (by omega) (by decide)]
  · rw [if_pos (by rw [show c / 9 = 0 by omega]; decide), if_neg e]
    rfl
theorem zm_B178 (hf : ∀ j, j < 81 → far j = nI (g j)) (hg : ∀ j, j < 81 → g j ≤ 100000) {c L : Nat} (hc : c < 81) (hL : L ≤ 100000) : f_X13_reaches_B178 far (nI c) (nI (c / 9)) (nI L) = some (nI (zz_mn g L (zz_nb c 0))) := by
  have hn : zz_nb c 0 = if c / 9 < 8 then some (c + 9) else none := rfl
  rw [f_X13_reaches_B178, hn]
  by_cases e : c / 9 < 8
  · have := hg (c + 9) (by omega)
    rw [zz_l8, if_neg (nI_ge e (by decide)), if_pos e, zz_l9, nI_add, zz_g (by omega) (by decide), nI_clamp (by omega), hf _ (by omega), zz_mn]
    by_cases q : L ≤ g (c + 9)
    · rw [if_pos (nI_le q (by omega)), if_pos q]
    · rw [if_neg (nI_ge (by omega) (by omega)), if_neg q, zz_g (by omega) (by decide)]
  · rw [if_pos (by rw [show c / 9 = 8 by omega]; decide), if_neg e]
    rfl
theorem zz_mn_le {L : Nat} : ∀ q, zz_mn g L q ≤ L ∧ (∀ d, q = some d → zz_mn g L q ≤ g d) ∧ (zz_mn g L q = L ∨ ∃ d, q = some d ∧ zz_mn g L q = g d)
  | none => ⟨Nat.le_refl _, fun d h => by (cases h), Or.inl rfl⟩
  | some d => by
    rw [show zz_mn g L (some d) = if L ≤ g d then L else g d from rfl]
    by_cases e : L ≤ g d
    · rw [if_pos e]
      exact ⟨Nat.le_refl _, fun d' h => by cases h; exact e, Or.inl rfl⟩
    · rw [if_neg e]
      exact ⟨by omega, fun d' h => by cases h; exact Nat.le_refl _, Or.inr ⟨d, rfl, rfl⟩⟩
def zz_L4 (g : Nat → Nat) (c : Nat) : Nat := zz_mn g (zz_mn g (zz_mn g (zz_mn g 100000 (zz_nb c 2)) (zz_nb c 3)) (zz_nb c 1)) (zz_nb c 0)
theorem zz_L4_s (c : Nat) : zz_L4 g c ≤ 100000 ∧ (∀ m, m < 4 → ∀ d, zz_nb c m = some d → zz_L4 g c ≤ g d) ∧ (zz_L4 g c = 100000 ∨ ∃ m d, m < 4 ∧ zz_nb c m = some d ∧ zz_L4 g c = g d) := by
  unfold zz_L4
  obtain ⟨a1, a2, a3⟩ := zz_mn_le (g := g) (L := 100000) (zz_nb c 2)
  generalize zz_mn g 100000 (zz_nb c 2) = x at *
  obtain ⟨b1, b2, b3⟩ := zz_mn_le (g := g) (L := x) (zz_nb c 3)
  generalize zz_mn g x (zz_nb c 3) = y at *
  obtain ⟨c1, c2, c3⟩ := zz_mn_le (g := g) (L := y) (zz_nb c 1)
  generalize zz_mn g y (zz_nb c 1) = z at *
  obtain ⟨d1, d2, d3⟩ := zz_mn_le (g := g) (L := z) (zz_nb c 0)
  generalize zz_mn g z (zz_nb c 0) = t at *
  refine ⟨by omega, fun m hm d h => ?_, ?_⟩
  · rcases (show m = 0 ∨ m = 1 ∨ m = 2 ∨ m = 3 by omega) with rfl | rfl | rfl | rfl
    · exact d2 d h
    · have := c2 d h
      omega
    · have := a2 d h
      omega
    · have := b2 d h
      omega
  · rcases d3 with d3 | ⟨d, e1, e2⟩
    · rcases c3 with c3 | ⟨d, e1, e2⟩
      · rcases b3 with b3 | ⟨d, e1, e2⟩
        · rcases a3 with a3 | ⟨d, e1, e2⟩
          · exact Or.inl (by omega)
          · exact Or.inr ⟨2, d, by decide, e1, by omega⟩
        · exact Or.inr ⟨3, d, by decide, e1, by omega⟩
      · exact Or.inr ⟨1, d, by decide, e1, by omega⟩
    · exact Or.inr ⟨0, d, by decide, e1, e2⟩
theorem zm_chain {β : Type} (hf : ∀ j, j < 81 → far j = nI (g j)) (hg : ∀ j, j < 81 → g j ≤ 100000) {c : Nat} (hc : c < 81) (k : Int32 → Option β) : ((f_X13_reaches_B84 far (nI c) (nI c - nI c / 9 * 9) 100000).bind fun q84 => (f_X13_reaches_B114 far (nI c) (nI c - nI c / 9 * 9) q84).bind fun q114 => (f_X13_reaches_B146 far (nI c) (nI c / 9) q114).bind fun q146 => (f_X13_reaches_B178 far (nI c) (nI c / 9) q146).bind k) = k (nI (zz_L4 g c)) := by
  have h1 := (zz_mn_le (g := g) (L := 100000) (zz_nb c 2)).1
  have h2 := (zz_mn_le (g := g) (L := zz_mn g 100000 (zz_nb c 2)) (zz_nb c 3)).1
  have h3 := (zz_mn_le (g := g) (L := zz_mn g (zz_mn g 100000 (zz_nb c 2)) (zz_nb c 3)) (zz_nb c 1)).1
  rw [zz_l9, pk_rem (by omega) (by decide) (by decide), pk_div (by omega) (by decide) (by decide), zz_l100000, zm_B84 hf hg hc (Nat.le_refl _), zz_b, zm_B114 hf hg hc (by omega), zz_b, zm_B146 hf hg hc (by omega), zz_b, zm_B178 hf hg hc (by omega), zz_b]
  rfl
theorem zm_fill (hK : 100 ≤ K) (hs : s < 81) (far : Nat → Int32) : ∃ f, f_X13_reaches_L2 (nI s) K 0 far = some f ∧ ∀ c, c < 81 → f c = nI (if c = s then 0 else 100000) := by
  refine zz_for0 (fun K i (r : Nat → Int32) => f_X13_reaches_L2 (nI s) K (nI i) r) 81 (fun i r => ∀ c, c < i → r c = nI (if c = s then 0 else 100000)) (fun q => ∃ f, q = some f ∧ ∀ c, c < 81 → f c = nI (if c = s then 0 else 100000)) ?_ ?_ K far (by omega) (fun c hc => by omega)
  · intro k r h
    refine ⟨r, ?_, h⟩
    show f_X13_reaches_L2 (nI s) (k + 1) (nI 81) r = _
    rw [f_X13_reaches_L2, if_pos (by decide)]
  · intro k i r hi h ih
    show ∃ f, f_X13_reaches_L2 (nI s) (k + 1) (nI i) r = some f ∧ _
    rw [f_X13_reaches_L2, zz_l81, if_neg (nI_ge hi (by decide)), nI_clamp (by omega), nI_1]
    by_cases e : i = s
    · rw [if_pos (by rw [e]), zz_g hi (by decide)]
      refine ih _ (fun c hc => ?_)
      rw [zz_upd]
      by_cases q : c = i
      · rw [if_pos q, if_pos (by omega)]; rfl
      · rw [if_neg q]; exact h c (by omega)
    · rw [if_neg (zz_ne e (by omega) (by omega)), zz_g hi (by decide)]
      refine ih _ (fun c hc => ?_)
      rw [zz_upd]
      by_cases q : c = i
      · rw [if_pos q, if_neg (by omega)]; rfl
      · rw [if_neg q]; exact h c (by omega)
/-- what the reference counts as open, and as a move's cost -/
def zz_by (S : Nat → Nat) (o : Nat → Bool) (w : Nat → Nat) (v : Nat → Int32) (y : Int32) : Prop := (∀ c, c < 81 → f_X13_costs v (nI c) y = some (nI (w c))) ∧ ((2 ≤ y ∧ ∀ c, c < 81 → o c = true) ∨ (¬ 2 ≤ y ∧ ∀ c, c < 81 → f_X13_isFree v (nI c) = some (zz_B (o c))))
theorem zm_pass (hK : 100 ≤ K) {y : Int32} (hy : zz_by S o w v y) (hw : ∀ c, c < 81 → w c ≤ 2) (hg : zz_so o w s 100000 g) (hr : ∀ j, j < 81 → far j = nI (g j)) : ∃ ch row' g', f_X13_reaches_L42 v y K 0 0 far = some (ch, row') ∧ (∀ j, j < 81 → row' j = nI (g' j)) ∧ (∀ j, j < 81 → g' j ≤ g j) ∧ zz_so o w s 100000 g' ∧ (∀ c, c < 81 → o c = true → ∀ m, m < 4 → ∀ d, zz_nb c m = some d → g' c ≤ g d + w c) ∧ ((ch = 0 ∧ ∀ j, j < 81 → g' j = g j) ∨ (ch = 1 ∧ ∃ j, j < 81 ∧ g' j < g j)) := by
  refine zz_for0 (fun K' i (r : Int32 × (Nat → Int32)) => f_X13_reaches_L42 v y K' r.1 (nI i) r.2) 81 (fun i r => ∃ g', (∀ j, j < 81 → r.2 j = nI (g' j)) ∧ (∀ j, j < 81 → g' j ≤ g j) ∧ zz_so o w s 100000 g' ∧ (∀ c, c < i → o c = true → ∀ m, m < 4 → ∀ d, zz_nb c m = some d → g' c ≤ g d + w c) ∧ ((r.1 = 0 ∧ ∀ j, j < 81 → g' j = g j) ∨ (r.1 = 1 ∧ ∃ j, j < 81 ∧ g' j < g j))) (fun q => ∃ ch row' g', q = some (ch, row') ∧ (∀ j, j < 81 → row' j = nI (g' j)) ∧ (∀ j, j < 81 → g' j ≤ g j) ∧ zz_so o w s 100000 g' ∧ (∀ c, c < 81 → o c = true → ∀ m, m < 4 → ∀ d, zz_nb c m = some d → g' c ≤ g d + w c) ∧ ((ch = 0 ∧ ∀ j, j < 81 → g' j = g j) ∨ (ch = 1 ∧ ∃ j, j < 81 ∧ g' j < g j))) ?_ ?_ K (nI 0, far) (by omega) ⟨g, hr, fun j _ => Nat.le_refl _, hg, fun c hc => by omega, Or.inl ⟨rfl, fun _ _ => rfl⟩⟩
  · intro k r h
    obtain ⟨g', h1, h2, h3, h4, h5⟩ := h
    refine ⟨r.1, r.2, g', ?_, h1, h2, h3, h4, h5⟩
    show f_X13_reaches_L42 v y (k + 1) r.1 (nI 81) r.2 = _
    rw [f_X13_reaches_L42, if_pos (by decide)]
  · intro k i r hi h ih
    obtain ⟨g', h1, h2, h3, h4, h5⟩ := h
    have hgl : ∀ j, j < 81 → g' j ≤ 100000 := fun j hj => (h3 j hj).1
    obtain ⟨l1, l2, l3⟩ := zz_L4_s (g := g') i
    have hcost := hy.1 i hi
    have hwi := hw i hi
    have hgi := hgl i hi
    show ∃ ch row' g', f_X13_reaches_L42 v y (k + 1) r.1 (nI i) r.2 = some (ch, row') ∧ _
    -- the step of an open cell
    have hopen : o i = true → ∃ ch row' h', (if nI (zz_L4 g' i) = 100000 then f_X13_reaches_L42 v y k r.1 (nI i + 1) r.2 else (f_X13_costs v (nI i) y).bind fun q225 => mm_g (mm_ck (nI i) 81) (if (nI (zz_L4 g' i) + q225) < (r.2 (nI i).toNatClampNeg) then (f_X13_costs v (nI i) y).bind fun q254 => mm_g (mm_ck (nI i) 81) (f_X13_reaches_L42 v y k 1 (nI i + 1) (upd r.2 (nI i).toNatClampNeg (nI (zz_L4 g' i) + q254))) else f_X13_reaches_L42 v y k r.1 (nI i + 1) r.2)) = some (ch, row') ∧ (∀ j, j < 81 → row' j = nI (h' j)) ∧ (∀ j, j < 81 → h' j ≤ g j) ∧ zz_so o w s 100000 h' ∧ (∀ c, c < 81 → o c = true → ∀ m, m < 4 → ∀ d, zz_nb c m = some d → h' c ≤ g d + w c) ∧ ((ch = 0 ∧ ∀ j, j < 81 → h' j = g j) ∨ (ch = 1 ∧ ∃ j, j < 81 ∧ h' j < g j)) := by
      intro ho
      have hskip : g' i ≤ zz_L4 g' i + w i → ∃ ch row' g', f_X13_reaches_L42 v y k r.1 (nI (i + 1)) r.2 = some (ch, row') ∧ (∀ j, j < 81 → row' j = nI (g' j)) ∧ (∀ j, j < 81 → g' j ≤ g j) ∧ zz_so o w s 100000 g' ∧ (∀ c, c < 81 → o c = true → ∀ m, m < 4 → ∀ d, zz_nb c m = some d → g' c ≤ g d + w c) ∧ ((ch = 0 ∧ ∀ j, j < 81 → g' j = g j) ∨ (ch = 1 ∧ ∃ j, j < 81 ∧ g' j < g j)) := by
        intro hle
        refine ih r ⟨g', h1, h2, h3, fun c hc hoc m hm d hd => ?_, h5⟩
        by_cases e : c = i
        · subst e
          have := l2 m hm d hd
          have := h2 d (zz_nb_lt c hi m hm d hd)
          omega
        · exact h4 c (by omega) hoc m hm d hd
      rw [hcost, zz_b, zz_g hi (by decide), nI_clamp (by omega), h1 i hi, zz_b, zz_g hi (by decide), nI_add, nI_1, zz_l100000]
      by_cases e : zz_L4 g' i = 100000
      · rw [if_pos (by rw [e])]
        exact hskip (by omega)
      · rw [if_neg (zz_ne e (by omega) (by decide))]
        by_cases e2 : zz_L4 g' i + w i < g' i
        · rw [if_pos (nI_lt e2 (by omega))]
          rcases l3 with l3 | ⟨m, d, k6, k7, k8⟩
          · exact absurd l3 e
          refine ih (1, upd r.2 i (nI (zz_L4 g' i + w i))) ⟨fun j => if j = i then zz_L4 g' i + w i else g' j, fun j hj => ?_, fun j hj => ?_, fun j hj => ?_, fun c hc hoc m hm d hd => ?_, Or.inr ⟨rfl, i, hi, ?_⟩⟩
          · show upd r.2 i (nI (zz_L4 g' i + w i)) j = nI (if j = i then zz_L4 g' i + w i else g' j)
            rw [zz_upd]
            by_cases q : j = i
            · rw [if_pos q, if_pos q]
            · rw [if_neg q, if_neg q]; exact h1 j hj
          · show (if j = i then zz_L4 g' i + w i else g' j) ≤ g j
            have := h2 j hj
            by_cases q : j = i
            · rw [if_pos q, q]
              rw [q] at this
              omega
            · rw [if_neg q]; exact this
          · show (if j = i then zz_L4 g' i + w i else g' j) ≤ _ ∧ ((if j = i then zz_L4 g' i + w i else g' j) = _ ∨ ∃ n, zz_wk o w s n (if j = i then zz_L4 g' i + w i else g' j) j)
            by_cases q : j = i
            · rw [if_pos q, q]
              exact ⟨by omega, Or.inr (zz_so_s h3 hi k6 ho k7 e2 (by rw [k8]))⟩
            · rw [if_neg q]; exact h3 j hj
          · show (if c = i then zz_L4 g' i + w i else g' c) ≤ g d + w c
            by_cases q : c = i
            · rw [if_pos q]
              subst q
              have := l2 m hm d hd
              have := h2 d (zz_nb_lt c hi m hm d hd)
              omega
            · rw [if_neg q]; exact h4 c (by omega) hoc m hm d hd
          · show (if i = i then zz_L4 g' i + w i else g' i) < g i
            rw [if_pos rfl]
            have := h2 i hi
            omega
        · rw [if_neg (nI_nlt (by omega) (by omega))]
          exact hskip (by omega)
    rw [f_X13_reaches_L42, zz_l81, if_neg (nI_ge hi (by decide))]
    rcases hy.2 with ⟨y1, y2⟩ | ⟨y1, y2⟩
    · rw [if_pos y1, zm_chain h1 hgl hi]
      exact hopen (y2 i hi)
    · rw [if_neg y1, y2 i hi, zz_b]
      cases ho : o i with
      | false =>
        rw [zz_Bf, if_pos (by first | rfl | decide), nI_1]
        refine ih r ⟨g', h1, h2, h3, fun c hc hoc m hm d hd => ?_, h5⟩
        by_cases e : c = i
        · rw [e, ho] at hoc; cases hoc
        · exact h4 c (by omega) hoc m hm d hd
      | true =>
        rw [zz_Bt, if_neg (by decide), zm_chain h1 hgl hi]
        exact hopen ho
theorem zz_sm_lt {f h : Nat → Nat} {k : Nat} : ∀ {n : Nat}, (∀ j, j < n → f j ≤ h j) → k < n → f k < h k → zz_sm f n < zz_sm h n
  | 0, _, hk, _ => absurd hk (Nat.not_lt_zero k)
  | n + 1, hle, hk, hlt => by
    show zz_sm f n + f n < zz_sm h n + h n
    have h1 := hle n (by omega)
    by_cases e : k = n
    · subst e
      have := zz_sm_le (f := f) (g := h) (n := k) (fun j hj => hle j (by omega))
      omega
    · have := zz_sm_lt (f := f) (h := h) (n := n) (k := k) (fun j hj => hle j (by omega)) (by omega) hlt
      omega
theorem zm_reaches (hK : 9000000 ≤ K) {y : Int32} (hy : zz_by S o w v y) (hw : ∀ c, c < 81 → w c ≤ 2) (hs : s < 81) (far : Nat → Int32) : ∃ f, f_X13_reaches K v far (nI s) y = some f ∧ zz_is o w s 100000 f := by
  obtain ⟨f0, h1, h2⟩ := zm_fill (K := K) (by omega) hs far
  have hL : ∃ f, f_X13_reaches_L33 K v y K (nI 1) f0 = some f ∧ zz_is o w s 100000 f := by
    refine zz_while (fun K' (r : (Nat → Nat) × Int32 × (Nat → Int32)) => f_X13_reaches_L33 K v y K' r.2.1 r.2.2) (fun r => (∀ j, j < 81 → r.2.2 j = nI (r.1 j)) ∧ r.1 s = 0 ∧ zz_so o w s 100000 r.1 ∧ ((r.2.1 = 0 ∧ zz_cl o w r.1) ∨ r.2.1 = 1)) (fun r => zz_sm r.1 81 + if r.2.1 = 0 then 0 else 1) (fun q => ∃ f, q = some f ∧ zz_is o w s 100000 f) ?_ 8200000 K (fun c => if c = s then 0 else 100000, nI 1, f0) ?_ (by omega) ⟨h2, if_pos rfl, fun c hc => ?_, Or.inr rfl⟩
    · intro k r h ih
      obtain ⟨k1, k2, k3, k4⟩ := h
      show ∃ f, f_X13_reaches_L33 K v y (k + 1) r.2.1 r.2.2 = some f ∧ _
      rw [f_X13_reaches_L33]
      by_cases e : r.2.1 = 0
      · rw [if_pos e]
        rcases k4 with k4 | k4
        · exact ⟨r.2.2, rfl, zz_is_of hw hs (by decide) k1 k3 (fun n d c _ h => zz_cl_wk hs k2 k4.2 n d c h)⟩
        · rw [k4] at e
          exact absurd e (by decide)
      · obtain ⟨ch, row', g', q1, q2, q3, q4, q5, q6⟩ := zm_pass (K := K) (by omega) hy hw k3 k1
        rw [if_neg e, q1, zz_b]
        refine ih (g', ch, row') ⟨q2, ?_, q4, ?_⟩ ?_
        · have := q3 s hs
          show g' s = 0
          omega
        · rcases q6 with q6 | q6
          · left
            refine ⟨q6.1, fun c' m c g1 g2 g4 g5 => ?_⟩
            obtain ⟨e1, e2⟩ := zz_nb_s g1 g2 g4
            have := q5 c e2 g5 (zz_opp m) (zz_opp_lt m g2) c' e1
            show g' c ≤ g' c' + w c
            rw [q6.2 c' g1]
            exact this
          · exact Or.inr q6.1
        · show zz_sm g' 81 + (if ch = 0 then 0 else 1) < zz_sm r.1 81 + (if r.2.1 = 0 then 0 else 1)
          rw [if_neg e]
          rcases q6 with q6 | ⟨q6, j, hj, hj2⟩
          · rw [if_pos q6.1, zz_sm_c (f := g') (g := r.1) (n := 81) q6.2]
            omega
          · rw [if_neg (by rw [q6]; decide)]
            have := zz_sm_lt q3 hj hj2
            omega
    · show zz_sm (fun c => if c = s then 0 else 100000) 81 + (if nI 1 = 0 then 0 else 1) ≤ 8200000
      have := zz_sm_b (f := fun c => if c = s then 0 else 100000) (m := 100000) (n := 81) (fun j _ => by
        show (if j = s then 0 else 100000) ≤ 100000
        split <;> omega)
      have h9 : (if nI 1 = 0 then 0 else 1) ≤ 1 := by split <;> omega
      omega
    · show (if c = s then 0 else 100000) ≤ 100000 ∧ ((if c = s then 0 else 100000) = 100000 ∨ ∃ n, zz_wk o w s n (if c = s then 0 else 100000) c)
      by_cases e : c = s
      · rw [if_pos e]
        exact ⟨by omega, Or.inr ⟨0, rfl, e⟩⟩
      · rw [if_neg e]
        exact ⟨Nat.le_refl _, Or.inl rfl⟩
  obtain ⟨f, h3, h4⟩ := hL
  refine ⟨f, ?_, h4⟩
  rw [f_X13_reaches, h1, zz_b]
  show (f_X13_reaches_L33 K v y K (nI 1) f0).bind _ = _
  rw [h3]
  rfl
end ZRE
