-- the search by rounds
def zz_tl (o : Nat → Bool) (w : Nat → Nat) (tl : Nat → Int32) : Prop := ∀ c, c < 81 → tl c = if o c = true then nI (w c) else -1
section ZRO
variable {o : Nat → Bool} {w : Nat → Nat} {s K : Nat} {tl : Nat → Int32}
theorem zz_tl_y (h : zz_tl o w tl) {c : Nat} (hc : c < 81) (ho : o c = true) : tl c = nI (w c) := by rw [h c hc, if_pos ho]
theorem zz_tl_n (h : zz_tl o w tl) {c : Nat} (hc : c < 81) (ho : o c = false) : tl c = -1 := by rw [h c hc, if_neg (by rw [ho]; decide)]
theorem zc_fillI (hK : 100 ≤ K) (row : Nat → Int32) : ∃ f, f_X11_begin_this_improved_L2 K 0 row = some f ∧ ∀ c, c < 81 → f c = nI 1000000 := by
  refine zz_for0 (fun K i (r : Nat → Int32) => f_X11_begin_this_improved_L2 K (nI i) r) 81 (fun i r => ∀ c, c < i → r c = nI 1000000) (fun q => ∃ f, q = some f ∧ ∀ c, c < 81 → f c = nI 1000000) ?_ ?_ K row (by omega) (fun c hc => by omega)
  · intro k r h
    refine ⟨r, ?_, h⟩
    show f_X11_begin_this_improved_L2 (k + 1) (nI 81) r = _
    rw [f_X11_begin_this_improved_L2, if_pos (by decide)]
  · intro k i r hi h ih
    show ∃ f, f_X11_begin_this_improved_L2 (k + 1) (nI i) r = some f ∧ _
    rw [f_X11_begin_this_improved_L2, zz_l81, if_neg (nI_ge hi (by decide)), zz_g hi (by decide), nI_clamp (by omega), nI_1]
    refine ih _ (fun c hc => ?_)
    rw [zz_upd]
    by_cases e : c = i
    · rw [if_pos e]; rfl
    · rw [if_neg e]; exact h c (by omega)
theorem zc_beginI (hK : 100 ≤ K) (htl : zz_tl o w tl) (hw : ∀ c, c < 81 → w c ≤ 2) (hs : s < 81) (hso : o s = true) (row : Nat → Int32) : ∃ f, f_X11_begin_this_improved K tl row (nI s) = some f ∧ ∀ c, c < 81 → f c = nI (if c = s then 0 else 1000000) := by
  obtain ⟨f, h1, h2⟩ := zc_fillI hK row
  have := hw s hs
  refine ⟨upd f s (nI 0), ?_, fun c hc => ?_⟩
  · rw [f_X11_begin_this_improved, h1, zz_b, zz_g hs (by decide), nI_clamp (by omega), zz_tl_y htl hs hso, if_neg (zz_n1 (by omega)), zz_g hs (by decide)]
    rfl
  · rw [zz_upd]
    by_cases e : c = s
    · rw [if_pos e, if_pos e]
    · rw [if_neg e, if_neg e]; exact h2 c hc
theorem zc_improve (hK : 100 ≤ K) (htl : zz_tl o w tl) (hw : ∀ c, c < 81 → w c ≤ 2) {c : Nat} (hc : c < 81) (ho : o c = true) {g : Nat → Nat} (hg : ∀ j, j < 81 → g j ≤ 1000000) {row : Nat → Int32} (hr : ∀ j, j < 81 → row j = nI (g j)) : ∃ ch row' x, f_X11_improveFromNeighbours K tl row (nI c) = some (ch, row') ∧ (∀ j, j < 81 → row' j = nI (if j = c then x else g j)) ∧ x ≤ g c ∧ (∀ m, m < 4 → ∀ d, zz_nb c m = some d → x ≤ g d + w c) ∧ ((ch = 0 ∧ x = g c) ∨ (ch = 1 ∧ x < g c ∧ ∃ m d, m < 4 ∧ zz_nb c m = some d ∧ x = g d + w c)) := by
  have hwc := hw c hc
  have hL : ∃ ch row' x, f_X11_improveFromNeighbours_L16 tl (nI c) K (nI 0) (nI 0) row = some (ch, row') ∧ (∀ j, j < 81 → row' j = nI (if j = c then x else g j)) ∧ x ≤ g c ∧ (∀ m, m < 4 → ∀ d, zz_nb c m = some d → x ≤ g d + w c) ∧ ((ch = 0 ∧ x = g c) ∨ (ch = 1 ∧ x < g c ∧ ∃ m d, m < 4 ∧ zz_nb c m = some d ∧ x = g d + w c)) := by
    refine zz_for0 (fun K i (r : Int32 × (Nat → Int32)) => f_X11_improveFromNeighbours_L16 tl (nI c) K r.1 (nI i) r.2) 4 (fun i r => ∃ x, (∀ j, j < 81 → r.2 j = nI (if j = c then x else g j)) ∧ x ≤ g c ∧ (∀ m, m < i → ∀ d, zz_nb c m = some d → x ≤ g d + w c) ∧ ((r.1 = 0 ∧ x = g c) ∨ (r.1 = 1 ∧ x < g c ∧ ∃ m d, m < 4 ∧ zz_nb c m = some d ∧ x = g d + w c))) (fun q => ∃ ch row' x, q = some (ch, row') ∧ (∀ j, j < 81 → row' j = nI (if j = c then x else g j)) ∧ x ≤ g c ∧ (∀ m, m < 4 → ∀ d, zz_nb c m = some d → x ≤ g d + w c) ∧ ((ch = 0 ∧ x = g c) ∨ (ch = 1 ∧ x < g c ∧ ∃ m d, m < 4 ∧ zz_nb c m = some d ∧ x = g d + w c))) ?_ ?_ K (nI 0, row) (by omega) ⟨g c, fun j hj => ?_, Nat.le_refl _, fun m hm => by omega, Or.inl ⟨rfl, rfl⟩⟩
    · intro k r h
      obtain ⟨x, h1, h2, h3, h4⟩ := h
      refine ⟨r.1, r.2, x, ?_, h1, h2, h3, h4⟩
      show f_X11_improveFromNeighbours_L16 tl (nI c) (k + 1) r.1 (nI 4) r.2 = _
      rw [f_X11_improveFromNeighbours_L16, if_pos (by decide)]
    · intro k i r hi h ih
      obtain ⟨x, h1, h2, h3, h4⟩ := h
      have hgc := hg c hc
      show ∃ ch row' x, f_X11_improveFromNeighbours_L16 tl (nI c) (k + 1) r.1 (nI i) r.2 = some (ch, row') ∧ _
      rw [f_X11_improveFromNeighbours_L16, zz_l4, if_neg (nI_ge hi (by decide)), zc_neighbour c hc i hi, zz_b, nI_1]
      cases hn : zz_nb c i with
      | none =>
        rw [zz_on, if_pos (by first | rfl | decide)]
        refine ih _ ⟨x, h1, h2, fun m hm d hd => ?_, h4⟩
        by_cases e : m = i
        · rw [e, hn] at hd; cases hd
        · exact h3 m (by omega) d hd
      | some d =>
        have hd := zz_nb_lt c hc i hi d hn
        have hgd := hg d hd
        have hdc : d ≠ c := by
          intro q
          unfold zz_nb at hn
          split at hn
          · split at hn
            · cases hn; omega
            · cases hn
          · split at hn
            · split at hn
              · cases hn; omega
              · cases hn
            · split at hn
              · split at hn
                · cases hn; omega
                · cases hn
              · split at hn
                · cases hn; omega
                · cases hn
        rw [zz_os, if_neg (zz_n1 (by omega)), zz_g hd (by decide), zz_g hc (by decide), zz_g hc (by decide), nI_clamp (by omega), nI_clamp (by omega), h1 c hc, h1 d hd, if_pos rfl, if_neg hdc, zz_tl_y htl hc ho, nI_add]
        by_cases e : x ≤ g d + w c
        · rw [if_pos (nI_le e (by omega))]
          refine ih _ ⟨x, h1, h2, fun m hm d' hd' => ?_, h4⟩
          by_cases e2 : m = i
          · rw [e2, hn] at hd'
            cases hd'
            exact e
          · exact h3 m (by omega) d' hd'
        · rw [if_neg (nI_ge (by omega) (by omega)), zz_g hd (by decide), zz_g hc (by decide), zz_g hc (by decide)]
          refine ih (1, upd r.2 c (nI (g d + w c))) ⟨g d + w c, fun j hj => ?_, by omega, fun m hm d' hd' => ?_, Or.inr ⟨rfl, by omega, i, d, hi, hn, rfl⟩⟩
          · show upd r.2 c (nI (g d + w c)) j = _
            rw [zz_upd]
            by_cases e2 : j = c
            · rw [if_pos e2, if_pos e2]
            · rw [if_neg e2, if_neg e2, h1 j hj, if_neg e2]
          · by_cases e2 : m = i
            · rw [e2, hn] at hd'
              cases hd'
              exact Nat.le_refl _
            · have := h3 m (by omega) d' hd'
              omega
    · show row j = nI (if j = c then g c else g j)
      rw [hr j hj]
      by_cases e : j = c
      · rw [if_pos e, e]
      · rw [if_neg e]
  obtain ⟨ch, row', x, h1, h2, h3, h4, h5⟩ := hL
  refine ⟨ch, row', x, ?_, h2, h3, h4, h5⟩
  rw [f_X11_improveFromNeighbours, zz_g hc (by decide), nI_clamp (by omega), zz_tl_y htl hc ho, if_neg (zz_n1 (by omega))]
  show (f_X11_improveFromNeighbours_L16 tl (nI c) K (nI 0) (nI 0) row).bind _ = _
  rw [h1, zz_b, zz_d (by
    rcases h5 with h5 | h5
    · exact Or.inl h5.1
    · exact Or.inr h5.1)]
theorem zz_so_s {F : Nat} {g : Nat → Nat} (hg : zz_so o w s F g) {c m d x : Nat} (hc : c < 81) (hm : m < 4) (ho : o c = true) (hn : zz_nb c m = some d) (hx : x < g c) (hx2 : x = g d + w c) : ∃ n, zz_wk o w s n x c := by
  obtain ⟨h1, h2⟩ := zz_nb_s hc hm hn
  obtain ⟨g1, g2⟩ := hg d h2
  have := (hg c hc).1
  rcases g2 with g2 | ⟨n, g2⟩
  · omega
  · exact ⟨n + 1, d, g d, zz_opp m, h2, zz_opp_lt m hm, g2, h1, ho, hx2⟩
theorem zc_round (hK : 100 ≤ K) (htl : zz_tl o w tl) (hw : ∀ c, c < 81 → w c ≤ 2) {g : Nat → Nat} (hg : zz_so o w s 1000000 g) {row : Nat → Int32} (hr : ∀ j, j < 81 → row j = nI (g j)) : ∃ ch row' g', f_X11_searchByRounds_L28 K tl K (nI 0) (nI 0) row = some (ch, row') ∧ (∀ j, j < 81 → row' j = nI (g' j)) ∧ (∀ j, j < 81 → g' j ≤ g j) ∧ zz_so o w s 1000000 g' ∧ (∀ c, c < 81 → o c = true → ∀ m, m < 4 → ∀ d, zz_nb c m = some d → g' c ≤ g d + w c) ∧ ((ch = 0 ∧ ∀ j, j < 81 → g' j = g j) ∨ ch = 1) := by
  refine zz_for0 (fun K' i (r : Int32 × (Nat → Int32)) => f_X11_searchByRounds_L28 K tl K' r.1 (nI i) r.2) 81 (fun i r => ∃ g', (∀ j, j < 81 → r.2 j = nI (g' j)) ∧ (∀ j, j < 81 → g' j ≤ g j) ∧ zz_so o w s 1000000 g' ∧ (∀ c, c < i → o c = true → ∀ m, m < 4 → ∀ d, zz_nb c m = some d → g' c ≤ g d + w c) ∧ ((r.1 = 0 ∧ ∀ j, j < 81 → g' j = g j) ∨ r.1 = 1)) (fun q => ∃ ch row' g', q = some (ch, row') ∧ (∀ j, j < 81 → row' j = nI (g' j)) ∧ (∀ j, j < 81 → g' j ≤ g j) ∧ zz_so o w s 1000000 g' ∧ (∀ c, c < 81 → o c = true → ∀ m, m < 4 → ∀ d, zz_nb c m = some d → g' c ≤ g d + w c) ∧ ((ch = 0 ∧ ∀ j, j < 81 → g' j = g j) ∨ ch = 1)) ?_ ?_ K (nI 0, row) (by omega) ⟨g, hr, fun j _ => Nat.le_refl _, hg, fun c hc => by omega, Or.inl ⟨rfl, fun _ _ => rfl⟩⟩
  · intro k r h
    obtain ⟨g', h1, h2, h3, h4, h5⟩ := h
    refine ⟨r.1, r.2, g', ?_, h1, h2, h3, h4, h5⟩
    show f_X11_searchByRounds_L28 K tl (k + 1) r.1 (nI 81) r.2 = _
    rw [f_X11_searchByRounds_L28, if_pos (by decide)]
  · intro k i r hi h ih
    obtain ⟨g', h1, h2, h3, h4, h5⟩ := h
    show ∃ ch row' g', f_X11_searchByRounds_L28 K tl (k + 1) r.1 (nI i) r.2 = some (ch, row') ∧ _
    rw [f_X11_searchByRounds_L28, zz_l81, if_neg (nI_ge hi (by decide))]
    have hch : ∀ (p : Int32) (row' : Nat → Int32) (X : Prop), (if p = 0 then if r.1 = 0 then f_X11_searchByRounds_L28 K tl k 0 (nI i + 1) row' else f_X11_searchByRounds_L28 K tl k 1 (nI i + 1) row' else f_X11_searchByRounds_L28 K tl k 1 (nI i + 1) row') = f_X11_searchByRounds_L28 K tl k (if p = 0 then (if r.1 = 0 then 0 else 1) else 1) (nI (i + 1)) row' := by
      intro p row' _
      rw [nI_1]
      split
      · split <;> rfl
      · rfl
    cases ho : o i with
    | false =>
      have e : f_X11_improveFromNeighbours K tl r.2 (nI i) = some (0, r.2) := by
        rw [f_X11_improveFromNeighbours, zz_g hi (by decide), nI_clamp (by omega), zz_tl_n htl hi ho, if_pos rfl]
      rw [e, zz_b, hch _ _ True, if_pos rfl]
      refine ih (_, r.2) ⟨g', h1, h2, h3, fun c hc hoc => ?_, ?_⟩
      · by_cases e2 : c = i
        · rw [e2, ho] at hoc; cases hoc
        · exact h4 c (by omega) hoc
      · rcases h5 with h5 | h5
        · exact Or.inl ⟨if_pos h5.1, h5.2⟩
        · exact Or.inr (if_neg (by rw [h5]; decide))
    | true =>
      obtain ⟨ch, row', x, k1, k2, k3, k4, k5⟩ := zc_improve hK htl hw hi ho (g := g') (fun j hj => (h3 j hj).1) h1
      rw [k1, zz_b, hch _ _ True]
      refine ih (_, row') ⟨fun j => if j = i then x else g' j, k2, fun j hj => ?_, fun j hj => ?_, fun c hc hoc m hm d hd => ?_, ?_⟩
      · show (if j = i then x else g' j) ≤ g j
        have := h2 j hj
        by_cases e : j = i
        · rw [if_pos e, e]
          rw [e] at this
          omega
        · rw [if_neg e]; exact this
      · show (if j = i then x else g' j) ≤ _ ∧ ((if j = i then x else g' j) = _ ∨ ∃ n, zz_wk o w s n (if j = i then x else g' j) j)
        by_cases e : j = i
        · rw [if_pos e, e]
          obtain ⟨q1, q2⟩ := h3 i hi
          rcases k5 with k5 | ⟨_, k5, m, d, k6, k7, k8⟩
          · rw [k5.2]; exact ⟨q1, q2⟩
          · exact ⟨by omega, Or.inr (zz_so_s h3 hi k6 ho k7 k5 k8)⟩
        · rw [if_neg e]; exact h3 j hj
      · show (if c = i then x else g' c) ≤ g d + w c
        by_cases e : c = i
        · rw [if_pos e]
          subst e
          have := k4 m hm d hd
          have := h2 d (zz_nb_lt c hi m hm d hd)
          omega
        · rw [if_neg e]; exact h4 c (by omega) hoc m hm d hd
      · rcases k5 with ⟨k5, k6⟩ | ⟨k5, _⟩
        · rcases h5 with h5 | h5
          · refine Or.inl ⟨?_, fun j hj => ?_⟩
            · show (if ch = 0 then (if r.1 = 0 then (0 : Int32) else 1) else 1) = 0
              rw [if_pos k5, if_pos h5.1]
            · show (if j = i then x else g' j) = g j
              by_cases e : j = i
              · rw [if_pos e, k6, e]; exact h5.2 i hi
              · rw [if_neg e]; exact h5.2 j hj
          · refine Or.inr ?_
            show (if ch = 0 then (if r.1 = 0 then (0 : Int32) else 1) else 1) = 1
            rw [if_pos k5, if_neg (by rw [h5]; decide)]
        · refine Or.inr ?_
          show (if ch = 0 then (if r.1 = 0 then (0 : Int32) else 1) else 1) = 1
          rw [if_neg (by rw [k5]; decide)]
theorem zc_rounds (hK : 100 ≤ K) (htl : zz_tl o w tl) (hw : ∀ c, c < 81 → w c ≤ 2) (hs : s < 81) (hso : o s = true) (row : Nat → Int32) : ∃ f, f_X11_searchByRounds K tl row (nI s) = some f ∧ zz_is o w s 1000000 f := by
  obtain ⟨f0, h1, h2⟩ := zc_beginI hK htl hw hs hso row
  have hL : ∃ f, f_X11_searchByRounds_L13 K tl K (nI 1) (nI 0) f0 = some f ∧ zz_is o w s 1000000 f := by
    refine zz_for0 (fun K' i (r : Int32 × (Nat → Int32)) => f_X11_searchByRounds_L13 K tl K' r.1 (nI i) r.2) 81 (fun i r => ∃ g, (∀ j, j < 81 → r.2 j = nI (g j)) ∧ g s = 0 ∧ zz_so o w s 1000000 g ∧ (∀ n d c, n ≤ i → zz_wk o w s n d c → g c ≤ d) ∧ (r.1 = 0 → zz_cl o w g)) (fun q => ∃ f, q = some f ∧ zz_is o w s 1000000 f) ?_ ?_ K (nI 1, f0) (by omega) ⟨fun c => if c = s then 0 else 1000000, h2, if_pos rfl, fun c hc => ?_, fun n d c hn h => ?_, fun e => absurd (show nI 1 = 0 from e) (by decide)⟩
    · intro k r h
      obtain ⟨g, k1, k2, k3, k4, k5⟩ := h
      refine ⟨r.2, ?_, zz_is_of hw hs (by decide) k1 k3 k4⟩
      show f_X11_searchByRounds_L13 K tl (k + 1) r.1 (nI 81) r.2 = _
      rw [f_X11_searchByRounds_L13, if_pos (by decide)]
    · intro k i r hi h ih
      obtain ⟨g, k1, k2, k3, k4, k5⟩ := h
      show ∃ f, f_X11_searchByRounds_L13 K tl (k + 1) r.1 (nI i) r.2 = some f ∧ _
      rw [f_X11_searchByRounds_L13, zz_l81, if_neg (nI_ge hi (by decide))]
      by_cases e : r.1 = 0
      · rw [if_pos e]
        exact ⟨r.2, rfl, zz_is_of hw hs (by decide) k1 k3 (fun n d c _ h => zz_cl_wk hs k2 (k5 e) n d c h)⟩
      · obtain ⟨ch, row', g', q1, q2, q3, q4, q5, q6⟩ := zc_round hK htl hw k3 k1
        rw [if_neg e]
        show ∃ f, ((f_X11_searchByRounds_L28 K tl K (nI 0) (nI 0) r.2).bind _) = some f ∧ _
        rw [q1, zz_b, nI_1]
        refine ih (ch, row') ⟨g', q2, ?_, q4, fun n d c hn h => ?_, fun e2 => ?_⟩
        · have := q3 s hs
          omega
        · cases n with
          | zero =>
            have := k4 0 d c (by omega) h
            have := q3 c (zz_wk_lt hs h)
            omega
          | succ n =>
            obtain ⟨c', d', m, g1, g2, g3, g4, g5, g6⟩ := h
            have := k4 n d' c' (by omega) g3
            obtain ⟨e1, e2⟩ := zz_nb_s g1 g2 g4
            have := q5 c e2 g5 (zz_opp m) (zz_opp_lt m g2) c' e1
            omega
        · have e3 : ch = 0 := e2
          rcases q6 with q6 | q6
          · intro c' m c g1 g2 g4 g5
            obtain ⟨e1, e2⟩ := zz_nb_s g1 g2 g4
            have := q5 c e2 g5 (zz_opp m) (zz_opp_lt m g2) c' e1
            rw [q6.2 c' g1]
            exact this
          · rw [q6] at e3
            exact absurd e3 (by decide)
    · show (if c = s then 0 else 1000000) ≤ 1000000 ∧ ((if c = s then 0 else 1000000) = 1000000 ∨ ∃ n, zz_wk o w s n (if c = s then 0 else 1000000) c)
      by_cases e : c = s
      · rw [if_pos e]
        exact ⟨by omega, Or.inr ⟨0, rfl, e⟩⟩
      · rw [if_neg e]
        exact ⟨Nat.le_refl _, Or.inl rfl⟩
    · have hn0 : n = 0 := by omega
      subst hn0
      show (if c = s then 0 else 1000000) ≤ d
      rw [if_pos h.2]
      exact Nat.zero_le _
  obtain ⟨f, h3, h4⟩ := hL
  refine ⟨f, ?_, h4⟩
  rw [f_X11_searchByRounds, h1, zz_b]
  show (f_X11_searchByRounds_L13 K tl K (nI 1) (nI 0) f0).bind _ = _
  rw [h3]
  rfl
end ZRO
