-- the search by breadth
def zz_dc (g : Nat → Nat) : Nat := zz_sm (fun c => if g c = 1000000 then 0 else 1) 81
def zz_BI (o : Nat → Bool) (s : Nat) (g q : Nat → Nat) (fl ta mv : Nat) : Prop :=
  (∀ k, k < fl → q k < 81 ∧ g (q k) ≠ 1000000 ∧ g (q k) ≤ k) ∧ (∀ c, c < 81 → g c ≠ 1000000 → ∃ k, k < fl ∧ q k = c) ∧ fl = zz_dc g ∧ zz_so o (fun _ => 1) s 1000000 g ∧ g s = 0 ∧ (∀ i j, i ≤ j → j < fl → g (q i) ≤ g (q j)) ∧ (∀ j, j < fl → ta < fl → g (q j) ≤ g (q ta) + 1) ∧ (∀ i, i < ta → i < fl → ∀ m, m < 4 → ∀ d, zz_nb (q i) m = some d → o d = true → g d ≤ g (q i) + 1) ∧ (ta < fl → ∀ m, m < mv → ∀ d, zz_nb (q ta) m = some d → o d = true → g d ≤ g (q ta) + 1)
section ZBF
variable {o : Nat → Bool} {s K : Nat} {tl : Nat → Int32} {g q : Nat → Nat} {fl ta mv : Nat}
theorem zz_dc_lt {d : Nat} (hd : d < 81) (h : g d = 1000000) : zz_dc g < 81 := by
  have h1 := zz_sm_u (f := fun c => if g c = 1000000 then 0 else 1) (g := fun c => if c = d then 1 else if g c = 1000000 then 0 else 1) hd (fun j hj hn => by rw [if_neg hn])
  have h2 := zz_sm_b (f := fun c => if c = d then 1 else if g c = 1000000 then 0 else 1) (m := 1) (n := 81) (fun j _ => by
    show (if j = d then 1 else if g j = 1000000 then 0 else 1) ≤ 1
    split
    · omega
    · split <;> omega)
  have h3 : zz_dc g + (if d = d then 1 else if g d = 1000000 then 0 else 1) = zz_sm (fun c => if c = d then 1 else if g c = 1000000 then 0 else 1) 81 + (if g d = 1000000 then 0 else 1) := h1
  rw [if_pos rfl, if_pos h] at h3
  omega
theorem zz_dc_le : zz_dc g ≤ 81 := Nat.le_trans (zz_sm_b (m := 1) (fun j _ => by split <;> omega)) (by decide)
theorem zz_BI_skip (h : zz_BI o s g q fl ta mv) (hx : ta < fl → ∀ d, zz_nb (q ta) mv = some d → o d = true → g d ≤ g (q ta) + 1) : zz_BI o s g q fl ta (mv + 1) := by
  obtain ⟨b1, b2, b3, b4, b5, b6, b7, b8, b9⟩ := h
  refine ⟨b1, b2, b3, b4, b5, b6, b7, b8, fun ht m hm d hd ho => ?_⟩
  by_cases e : m = mv
  · subst e
    exact hx ht d hd ho
  · exact b9 ht m (by omega) d hd ho
theorem zz_BI_new (h : zz_BI o s g q fl ta mv) (ht : ta < fl) (hm : mv < 4) {d : Nat} (hd : zz_nb (q ta) mv = some d) (ho : o d = true) (hF : g d = 1000000) : zz_BI o s (zz_u g d (g (q ta) + 1)) (zz_u q fl d) (fl + 1) ta (mv + 1) := by
  obtain ⟨b1, b2, b3, b4, b5, b6, b7, b8, b9⟩ := h
  obtain ⟨x1, x2, x3⟩ := b1 ta ht
  have hd81 := zz_nb_lt _ x1 _ hm d hd
  have hfl := zz_dc_lt hd81 hF
  rw [← b3] at hfl
  have hqd : ∀ k, k < fl → q k ≠ d := fun k hk e => (b1 k hk).2.1 (by rw [e]; exact hF)
  have hg : ∀ k, k < fl → zz_u g d (g (q ta) + 1) (q k) = g (q k) := fun k hk => zz_un _ _ (hqd k hk)
  have hq : ∀ k, k < fl → zz_u q fl d k = q k := fun k hk => zz_un _ _ (by omega)
  have hqf : zz_u q fl d fl = d := zz_us _ _ _
  have hgd : zz_u g d (g (q ta) + 1) d = g (q ta) + 1 := zz_us _ _ _
  have hle : ∀ c, c < 81 → zz_u g d (g (q ta) + 1) c ≤ g c := by
    intro c hc
    rw [zz_uv]
    split
    · rename_i e
      rw [e, hF]
      omega
    · exact Nat.le_refl _
  refine ⟨fun k hk => ?_, fun c hc hne => ?_, ?_, fun c hc => ?_, ?_, fun i j hij hj => ?_, fun j hj _ => ?_, fun i hi hi2 m hm2 d' hd' ho' => ?_, fun _ m hm2 d' hd' ho' => ?_⟩
  · by_cases e : k = fl
    · rw [e, hqf, hgd]
      exact ⟨hd81, by omega, by omega⟩
    · rw [hq k (by omega), hg k (by omega)]
      exact b1 k (by omega)
  · by_cases e : c = d
    · exact ⟨fl, by omega, by rw [hqf, e]⟩
    · rw [zz_un _ _ e] at hne
      obtain ⟨k, k1, k2⟩ := b2 c hc hne
      exact ⟨k, by omega, by rw [hq k k1, k2]⟩
  · have h1 := zz_sm_u (f := fun c => if zz_u g d (g (q ta) + 1) c = 1000000 then 0 else 1) (g := fun c => if g c = 1000000 then 0 else 1) hd81 (fun j hj hn => by rw [zz_un _ _ hn])
    have h3 : zz_dc (zz_u g d (g (q ta) + 1)) + (if g d = 1000000 then 0 else 1) = zz_dc g + (if zz_u g d (g (q ta) + 1) d = 1000000 then 0 else 1) := h1
    rw [if_pos hF, hgd, if_neg (by omega)] at h3
    omega
  · by_cases e : c = d
    · rw [e, hgd]
      refine ⟨by omega, Or.inr ?_⟩
      rcases (b4 _ x1).2 with k | ⟨n, k⟩
      · exact absurd k x2
      · exact ⟨n + 1, q ta, g (q ta), mv, x1, hm, k, hd, ho, rfl⟩
    · rw [zz_un _ _ e]
      exact b4 c hc
  · by_cases e : s = d
    · rw [← e, b5] at hF
      omega
    · rw [zz_un _ _ e]
      exact b5
  · by_cases e : j = fl
    · rw [e, hqf, hgd]
      by_cases e2 : i = fl
      · rw [e2, hqf, hgd]
        exact Nat.le_refl _
      · rw [hq i (by omega), hg i (by omega)]
        exact b7 i (by omega) ht
    · rw [hq j (by omega), hg j (by omega), hq i (by omega), hg i (by omega)]
      exact b6 i j hij (by omega)
  · rw [hq ta ht, hg ta ht]
    by_cases e : j = fl
    · rw [e, hqf, hgd]
      exact Nat.le_refl _
    · rw [hq j (by omega), hg j (by omega)]
      exact b7 j (by omega) ht
  · have hi3 : i < fl := by omega
    rw [hq i hi3] at hd' ⊢
    rw [hg i hi3]
    have := b8 i hi hi3 m hm2 d' hd' ho'
    have := hle d' (zz_nb_lt _ (b1 i hi3).1 m hm2 d' hd')
    omega
  · rw [hq ta ht] at hd' ⊢
    rw [hg ta ht]
    by_cases e : m = mv
    · subst e
      rw [hd] at hd'
      cases hd'
      rw [hgd]
      exact Nat.le_refl _
    · have := b9 ht m (by omega) d' hd' ho'
      have := hle d' (zz_nb_lt _ x1 m (by omega) d' hd')
      omega
theorem zz_BI_next (h : zz_BI o s g q fl ta 4) (ht : ta < fl) : zz_BI o s g q fl (ta + 1) 0 := by
  obtain ⟨b1, b2, b3, b4, b5, b6, b7, b8, b9⟩ := h
  refine ⟨b1, b2, b3, b4, b5, b6, fun j hj ht2 => ?_, fun i hi hi2 m hm d hd ho => ?_, fun _ m hm => by omega⟩
  · have := b7 j hj ht
    have := b6 ta (ta + 1) (by omega) ht2
    omega
  · by_cases e : i = ta
    · subst e
      exact b9 ht m hm d hd ho
    · exact b8 i (by omega) hi2 m hm d hd ho
theorem zc_spread (hK : 100 ≤ K) (htl : zz_tl o (fun _ => 1) tl) (h : zz_BI o s g q fl ta 0) (ht : ta < fl) {qr fr : Nat → Int32} (hq : ∀ k, k < fl → qr k = nI (q k)) (hf : ∀ c, c < 81 → fr c = nI (g c)) : ∃ qr' fr' g' q' fl', f_X11_spread K tl qr fr (nI (q ta)) (nI fl) = some (nI fl', qr', fr') ∧ (∀ k, k < fl' → qr' k = nI (q' k)) ∧ (∀ c, c < 81 → fr' c = nI (g' c)) ∧ zz_BI o s g' q' fl' (ta + 1) 0 ∧ ta < fl' := by
  have hL : ∃ qr' fr' g' q' fl', f_X11_spread_L5 tl (nI (q ta)) K (nI fl) (nI 0) qr fr = some (nI fl', qr', fr') ∧ (∀ k, k < fl' → qr' k = nI (q' k)) ∧ (∀ c, c < 81 → fr' c = nI (g' c)) ∧ zz_BI o s g' q' fl' (ta + 1) 0 ∧ ta < fl' := by
    refine zz_for0 (fun K i (r : Int32 × (Nat → Int32) × (Nat → Int32)) => f_X11_spread_L5 tl (nI (q ta)) K r.1 (nI i) r.2.1 r.2.2) 4 (fun i r => ∃ g' q' fl', r.1 = nI fl' ∧ (∀ k, k < fl' → r.2.1 k = nI (q' k)) ∧ (∀ c, c < 81 → r.2.2 c = nI (g' c)) ∧ zz_BI o s g' q' fl' ta i ∧ ta < fl' ∧ q' ta = q ta) (fun z => ∃ qr' fr' g' q' fl', z = some (nI fl', qr', fr') ∧ (∀ k, k < fl' → qr' k = nI (q' k)) ∧ (∀ c, c < 81 → fr' c = nI (g' c)) ∧ zz_BI o s g' q' fl' (ta + 1) 0 ∧ ta < fl') ?_ ?_ K (nI fl, qr, fr) (by omega) ⟨g, q, fl, rfl, hq, hf, h, ht, rfl⟩
    · intro k r hr
      obtain ⟨g', q', fl', h1, h2, h3, h4, h5, h6⟩ := hr
      refine ⟨r.2.1, r.2.2, g', q', fl', ?_, h2, h3, zz_BI_next h4 h5, h5⟩
      show f_X11_spread_L5 tl (nI (q ta)) (k + 1) r.1 (nI 4) r.2.1 r.2.2 = _
      rw [f_X11_spread_L5, if_pos (by decide), h1]
    · intro k i r hi hr ih
      obtain ⟨g', q', fl', h1, h2, h3, h4, h5, h6⟩ := hr
      obtain ⟨x1, x2, x3⟩ := h4.1 ta h5
      have hdc := zz_dc_le (g := g')
      have hfl' := h4.2.2.1
      rw [h6] at x1 x2 x3
      show ∃ qr' fr' g' q' fl', f_X11_spread_L5 tl (nI (q ta)) (k + 1) r.1 (nI i) r.2.1 r.2.2 = some (nI fl', qr', fr') ∧ _
      rw [f_X11_spread_L5, zz_l4, if_neg (nI_ge hi (by decide)), zc_neighbour _ x1 i hi, zz_b, nI_1]
      cases hn : zz_nb (q ta) i with
      | none =>
        rw [zz_on, if_pos (by first | rfl | decide)]
        exact ih r ⟨g', q', fl', h1, h2, h3, zz_BI_skip h4 (fun _ d hd => by rw [h6, hn] at hd; cases hd), h5, h6⟩
      | some d =>
        have hd := zz_nb_lt _ x1 i hi d hn
        rw [zz_os, if_neg (zz_n1 (by omega)), zz_g hd (by decide), nI_clamp (by omega), htl d hd]
        cases ho : o d with
        | false =>
          rw [if_neg (show ¬ (false = true) by decide), if_pos (by first | rfl | decide)]
          exact ih r ⟨g', q', fl', h1, h2, h3, zz_BI_skip h4 (fun _ d' hd' ho' => by
            rw [h6, hn] at hd'
            cases hd'
            rw [ho] at ho'
            cases ho'), h5, h6⟩
        | true =>
          have hgl := (h4.2.2.2.1 d hd).1
          rw [if_pos (show true = true from rfl), if_neg (show ¬ nI 1 = -1 by decide), zz_g hd (by decide), h3 d hd, zz_l1000000]
          by_cases e : g' d = 1000000
          · have hlt := zz_dc_lt hd e
            rw [if_pos (congrArg nI e), h1, zz_l81, if_neg (nI_ge (by omega) (by decide)), zz_g x1 (by decide), zz_g hd (by decide), zz_g (show fl' < 81 by omega) (by decide), nI_clamp (by omega), nI_clamp (by omega), h3 _ x1, nI_1, nI_1]
            have hnew := zz_BI_new h4 h5 hi (by rw [h6]; exact hn) ho e
            rw [h6] at hnew
            refine ih (nI (fl' + 1), upd r.2.1 fl' (nI d), upd r.2.2 d (nI (g' (q ta) + 1))) ⟨_, _, fl' + 1, rfl, fun j hj => ?_, fun c hc => ?_, hnew, by omega, by rw [zz_un _ _ (by omega)]; exact h6⟩
            · show upd r.2.1 fl' (nI d) j = nI (zz_u q' fl' d j)
              rw [zz_upd, zz_uv]
              by_cases e2 : j = fl'
              · rw [if_pos e2, if_pos e2]
              · rw [if_neg e2, if_neg e2]; exact h2 j (by omega)
            · show upd r.2.2 d (nI (g' (q ta) + 1)) c = nI (zz_u g' d (g' (q ta) + 1) c)
              rw [zz_upd, zz_uv]
              by_cases e2 : c = d
              · rw [if_pos e2, if_pos e2]
              · rw [if_neg e2, if_neg e2]; exact h3 c hc
          · rw [if_neg (zz_ne e (by omega) (by decide))]
            refine ih r ⟨g', q', fl', h1, h2, h3, zz_BI_skip h4 (fun _ d' hd' ho' => ?_), h5, h6⟩
            rw [h6, hn] at hd'
            cases hd'
            obtain ⟨k', k1, k2⟩ := h4.2.1 d hd e
            have := h4.2.2.2.2.2.2.1 k' k1 h5
            rw [k2] at this
            exact this
  obtain ⟨qr', fr', g', q', fl', h1, h2⟩ := hL
  refine ⟨qr', fr', g', q', fl', ?_, h2⟩
  rw [f_X11_spread]
  show (f_X11_spread_L5 tl (nI (q ta)) K (nI fl) (nI 0) qr fr).bind _ = _
  rw [h1]
  rfl
theorem zc_fillF (hK : 100 ≤ K) (row : Nat → Int32) : ∃ f, f_X11_begin_this_found_L2 K 0 row = some f ∧ ∀ c, c < 81 → f c = nI 1000000 := by
  refine zz_for0 (fun K i (r : Nat → Int32) => f_X11_begin_this_found_L2 K (nI i) r) 81 (fun i r => ∀ c, c < i → r c = nI 1000000) (fun q => ∃ f, q = some f ∧ ∀ c, c < 81 → f c = nI 1000000) ?_ ?_ K row (by omega) (fun c hc => by omega)
  · intro k r h
    refine ⟨r, ?_, h⟩
    show f_X11_begin_this_found_L2 (k + 1) (nI 81) r = _
    rw [f_X11_begin_this_found_L2, if_pos (by decide)]
  · intro k i r hi h ih
    show ∃ f, f_X11_begin_this_found_L2 (k + 1) (nI i) r = some f ∧ _
    rw [f_X11_begin_this_found_L2, zz_l81, if_neg (nI_ge hi (by decide)), zz_g hi (by decide), nI_clamp (by omega), nI_1]
    refine ih _ (fun c hc => ?_)
    rw [zz_upd]
    by_cases e : c = i
    · rw [if_pos e]; rfl
    · rw [if_neg e]; exact h c (by omega)
theorem zc_beginF {w : Nat → Nat} (hK : 100 ≤ K) (htl : zz_tl o w tl) (hw : ∀ c, c < 81 → w c ≤ 2) (hs : s < 81) (row : Nat → Int32) : ∃ f, f_X11_begin_this_found K tl row (nI s) = some f ∧ ∀ c, c < 81 → f c = nI (if c = s ∧ o s = true then 0 else 1000000) := by
  obtain ⟨f, h1, h2⟩ := zc_fillF hK row
  have := hw s hs
  cases ho : o s with
  | true =>
    refine ⟨upd f s (nI 0), ?_, fun c hc => ?_⟩
    · rw [f_X11_begin_this_found, h1, zz_b, zz_g hs (by decide), nI_clamp (by omega), zz_tl_y htl hs ho, if_neg (zz_n1 (by omega)), zz_g hs (by decide)]
      rfl
    · rw [zz_upd]
      by_cases e : c = s
      · rw [if_pos e, if_pos ⟨e, rfl⟩]
      · rw [if_neg e, if_neg (fun q => e q.1)]; exact h2 c hc
  | false =>
    refine ⟨f, ?_, fun c hc => ?_⟩
    · rw [f_X11_begin_this_found, h1, zz_b, zz_g hs (by decide), nI_clamp (by omega), zz_tl_n htl hs ho, if_pos rfl]
    · rw [if_neg (fun q => absurd q.2 (by decide))]; exact h2 c hc
theorem zc_breadth (hK : 100 ≤ K) (htl : zz_tl o (fun _ => 1) tl) (hs : s < 81) (qr row : Nat → Int32) : ∃ qr' f, f_X11_searchByBreadth K tl qr row (nI s) = some (qr', f) ∧ (o s = true → zz_is o (fun _ => 1) s 1000000 f) ∧ (o s = false → ∀ c, c < 81 → f c = nI 1000000) := by
  obtain ⟨f0, h1, h2⟩ := zc_beginF (w := fun _ => 1) hK htl (fun _ _ => by decide) hs row
  have h2s := h2 s hs
  cases ho : o s with
  | false =>
    rw [ho] at h2s h2
    rw [if_neg (fun q => absurd q.2 (by decide))] at h2s
    obtain ⟨k, rfl⟩ : ∃ k, K = k + 1 := ⟨K - 1, by omega⟩
    refine ⟨upd qr 0 (nI s), f0, ?_, fun q => (by cases q), fun _ c hc => by rw [h2 c hc, if_neg (fun q => absurd q.2 (by decide))]⟩
    rw [f_X11_searchByBreadth, h1, zz_b, zz_g hs (by decide), nI_clamp (by omega), h2s, if_neg (by decide), f_X11_searchByBreadth_L33, if_neg (by decide), if_pos (by decide)]
    rfl
  | true =>
    rw [ho] at h2s h2
    rw [if_pos ⟨rfl, rfl⟩] at h2s
    have hL : ∃ qr' f, f_X11_searchByBreadth_L33 K tl K (nI 1) (nI 0) (upd qr 0 (nI s)) f0 = some (qr', f) ∧ zz_is o (fun _ => 1) s 1000000 f := by
      have hend : ∀ (g q : Nat → Nat) (fl ta : Nat) (fr : Nat → Int32), (∀ c, c < 81 → fr c = nI (g c)) → zz_BI o s g q fl ta 0 → fl ≤ ta → zz_is o (fun _ => 1) s 1000000 fr := by
        intro g q fl ta fr hf hb hle
        refine zz_is_of (fun _ _ => by decide) hs (by decide) hf hb.2.2.2.1 (fun n d c _ h => zz_cl_wk hs hb.2.2.2.2.1 (fun c' m c g1 g2 g4 g5 => ?_) n d c h)
        by_cases e : g c' = 1000000
        · have := (hb.2.2.2.1 c (zz_nb_s g1 g2 g4).2).1
          show g c ≤ g c' + 1
          omega
        · obtain ⟨k, k1, k2⟩ := hb.2.1 c' g1 e
          have := hb.2.2.2.2.2.2.2.1 k (by omega) k1 m g2 c (by rw [k2]; exact g4) g5
          rw [k2] at this
          exact this
      refine zz_for0 (fun K' i (r : Int32 × (Nat → Int32) × (Nat → Int32)) => f_X11_searchByBreadth_L33 K tl K' r.1 (nI i) r.2.1 r.2.2) 81 (fun i r => ∃ g q fl, r.1 = nI fl ∧ (∀ k, k < fl → r.2.1 k = nI (q k)) ∧ (∀ c, c < 81 → r.2.2 c = nI (g c)) ∧ zz_BI o s g q fl i 0) (fun z => ∃ qr' f, z = some (qr', f) ∧ zz_is o (fun _ => 1) s 1000000 f) ?_ ?_ K (nI 1, upd qr 0 (nI s), f0) (by omega) ⟨fun c => if c = s ∧ true = true then 0 else 1000000, fun _ => s, 1, rfl, fun k hk => ?_, h2, ?_⟩
      · intro k r hr
        obtain ⟨g, q, fl, k1, k2, k3, k4⟩ := hr
        have hfl := k4.2.2.1
        have hdc := zz_dc_le (g := g)
        refine ⟨r.2.1, r.2.2, ?_, hend g q fl 81 _ k3 k4 (by omega)⟩
        show f_X11_searchByBreadth_L33 K tl (k + 1) r.1 (nI 81) r.2.1 r.2.2 = _
        rw [f_X11_searchByBreadth_L33, if_pos (by decide)]
      · intro k i r hi hr ih
        obtain ⟨g, q, fl, k1, k2, k3, k4⟩ := hr
        have hfl := k4.2.2.1
        have hdc := zz_dc_le (g := g)
        show ∃ qr' f, f_X11_searchByBreadth_L33 K tl (k + 1) r.1 (nI i) r.2.1 r.2.2 = some (qr', f) ∧ _
        rw [f_X11_searchByBreadth_L33, zz_l81, if_neg (nI_ge hi (by decide)), k1]
        by_cases e : fl ≤ i
        · rw [if_pos (nI_le e (by omega))]
          exact ⟨_, _, rfl, hend g q fl i _ k3 k4 e⟩
        · obtain ⟨qr', fr', g', q', fl', s1, s2, s3, s4, s5⟩ := zc_spread hK htl k4 (by omega) k2 k3
          rw [if_neg (nI_ge (by omega) (by omega)), zz_g hi (by decide), nI_clamp (by omega), k2 i (by omega), s1, zz_b, nI_1]
          exact ih (nI fl', qr', fr') ⟨g', q', fl', rfl, s2, s3, s4⟩
      · have : k = 0 := by omega
        subst this
        rfl
      · have hg : ∀ c, (if c = s ∧ true = true then 0 else 1000000) = if c = s then 0 else 1000000 := by
          intro c
          by_cases e : c = s
          · rw [if_pos e, if_pos ⟨e, rfl⟩]
          · rw [if_neg e, if_neg (fun q => e q.1)]
        refine ⟨fun k hk => ?_, fun c hc hne => ?_, ?_, fun c hc => ?_, ?_, fun i j hij hj => Nat.le_refl _, fun j hj _ => Nat.le_add_right _ _, fun i hi => by omega, fun _ m hm => by omega⟩
        · show s < 81 ∧ (if s = s ∧ true = true then 0 else 1000000) ≠ 1000000 ∧ (if s = s ∧ true = true then 0 else 1000000) ≤ k
          rw [hg, if_pos rfl]
          exact ⟨hs, by decide, Nat.zero_le _⟩
        · have hne2 : (if c = s ∧ true = true then 0 else 1000000) ≠ 1000000 := hne
          rw [hg] at hne2
          by_cases e : c = s
          · exact ⟨0, by decide, e.symm⟩
          · rw [if_neg e] at hne2
            exact absurd rfl hne2
        · have h3 := zz_sm_u (f := fun c => if (if c = s ∧ true = true then 0 else 1000000) = 1000000 then 0 else 1) (g := fun _ => 0) hs (fun j hj hn => by
            show (if (if j = s ∧ true = true then 0 else 1000000) = 1000000 then 0 else 1) = 0
            rw [hg, if_neg hn]
            rfl)
          have h4 : zz_dc (fun c => if c = s ∧ true = true then 0 else 1000000) + 0 = zz_sm (fun _ => 0) 81 + (if (if s = s ∧ true = true then 0 else 1000000) = 1000000 then 0 else 1) := h3
          rw [hg, if_pos rfl, if_neg (by decide)] at h4
          have h5 : zz_sm (fun _ => 0) 81 = 0 := by
            have := zz_sm_b (f := fun _ => 0) (m := 0) (n := 81) (fun _ _ => Nat.le_refl _)
            omega
          omega
        · show (if c = s ∧ true = true then 0 else 1000000) ≤ _ ∧ ((if c = s ∧ true = true then 0 else 1000000) = _ ∨ ∃ n, zz_wk o (fun _ => 1) s n (if c = s ∧ true = true then 0 else 1000000) c)
          rw [hg]
          by_cases e : c = s
          · rw [if_pos e]
            exact ⟨by omega, Or.inr ⟨0, rfl, e⟩⟩
          · rw [if_neg e]
            exact ⟨Nat.le_refl _, Or.inl rfl⟩
        · show (if s = s ∧ true = true then 0 else 1000000) = 0
          rw [hg, if_pos rfl]
    obtain ⟨qr', f, g1, g2⟩ := hL
    refine ⟨qr', f, ?_, fun _ => g2, fun q => (by cases q)⟩
    rw [f_X11_searchByBreadth, h1, zz_b, zz_g hs (by decide), nI_clamp (by omega), h2s, if_pos (by first | rfl | decide)]
    show (f_X11_searchByBreadth_L33 K tl K (nI 1) (nI 0) (upd qr 0 (nI s)) f0).bind _ = _
    rw [g1]
    rfl
end ZBF
