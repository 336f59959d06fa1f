-- the search by the heap
def zz_cc (cl : Nat → Bool) : Nat := zz_sm (fun j => if cl j = true then 1 else 0) 81
/-- what holds between two steps: g the row, h the heap of n entries, cl what is done with, D the last entry's cost -/
def zz_DI (o : Nat → Bool) (w : Nat → Nat) (s : Nat) (g h : Nat → Nat) (n : Nat) (cl : Nat → Bool) (D i : Nat) : Prop :=
  zz_so o w s 1000000 g ∧ g s = 0 ∧ zz_ho h n ∧ (∀ k, k < n → h k < 81000000 ∧ D ≤ h k / 81) ∧ (∀ c, c < 81 → g c ≠ 1000000 → cl c = true ∨ zz_co h n (g c * 81 + c)) ∧ (∀ c, c < 81 → cl c = true → g c ≤ D ∧ g c ≠ 1000000 ∧ ∀ m, m < 4 → ∀ d, zz_nb c m = some d → o d = true → g d ≤ g c + w d) ∧ n + i ≤ 1 + 4 * zz_cc cl
section ZDI
variable {o : Nat → Bool} {w : Nat → Nat} {s K : Nat} {tl : Nat → Int32} {g h : Nat → Nat} {n D i : Nat} {cl : Nat → Bool}
theorem zz_cc_le : zz_cc cl ≤ 81 := Nat.le_trans (zz_sm_b (m := 1) (fun j _ => by split <;> omega)) (by decide)
theorem zz_cc_lt {d : Nat} (hd : d < 81) (h : cl d = false) : zz_cc (fun j => if j = d then true else cl j) = zz_cc cl + 1 := by
  have h1 := zz_sm_u (f := fun j => if (if j = d then true else cl j) = true then 1 else 0) (g := fun j => if cl j = true then 1 else 0) hd (fun j hj hn => by
    show (if (if j = d then true else cl j) = true then 1 else 0) = if cl j = true then 1 else 0
    rw [if_neg hn])
  have h3 : zz_cc (fun j => if j = d then true else cl j) + (if cl d = true then 1 else 0) = zz_cc cl + (if (if d = d then true else cl d) = true then 1 else 0) := h1
  rw [h, if_neg (by decide), if_pos rfl, if_pos rfl] at h3
  omega
theorem zc_relax (hK : 1000 ≤ K) (htl : zz_tl o w tl) (hw : ∀ c, c < 81 → w c ≤ 2) {c : Nat} (hc : c < 81) (hso : zz_so o w s 1000000 g) (hgc : g c ≠ 1000000) (hho : zz_ho h n) (hen : ∀ k, k < n → h k < 81000000 ∧ g c ≤ h k / 81) (hcov : ∀ c', c' < 81 → g c' ≠ 1000000 → cl c' = true ∨ c' = c ∨ zz_co h n (g c' * 81 + c')) (hcl : ∀ c', c' < 81 → cl c' = true → g c' ≤ g c) (hdone : cl c = true → ∀ m, m < 4 → ∀ d, zz_nb c m = some d → o d = true → g d ≤ g c + w d) (hcap : cl c = false → n + 4 ≤ 325) {hp fr : Nat → Int32} (hr : ∀ k, k < n → hp k = nI (h k)) (hf : ∀ j, j < 81 → fr j = nI (g j)) : ∃ hp' fr' g' h' n', f_X11_relax K tl hp (nI n) fr (nI c) = some (hp', nI n', fr') ∧ (∀ k, k < n' → hp' k = nI (h' k)) ∧ (∀ j, j < 81 → fr' j = nI (g' j)) ∧ zz_so o w s 1000000 g' ∧ (∀ j, j < 81 → g' j ≤ g j) ∧ g' c = g c ∧ zz_ho h' n' ∧ (∀ k, k < n' → h' k < 81000000 ∧ g c ≤ h' k / 81) ∧ (∀ c', c' < 81 → g' c' ≠ 1000000 → cl c' = true ∨ c' = c ∨ zz_co h' n' (g' c' * 81 + c')) ∧ (∀ c', c' < 81 → cl c' = true → g' c' = g c') ∧ (n' ≤ n + 4 ∧ (cl c = true → n' = n)) ∧ (∀ m, m < 4 → ∀ d, zz_nb c m = some d → o d = true → g' d ≤ g c + w d) := by
  have hL : ∃ hp' fr' g' h' n', f_X11_relax_L2 K tl (nI c) K (nI 0) hp (nI n) fr = some (hp', nI n', fr') ∧ (∀ k, k < n' → hp' k = nI (h' k)) ∧ (∀ j, j < 81 → fr' j = nI (g' j)) ∧ zz_so o w s 1000000 g' ∧ (∀ j, j < 81 → g' j ≤ g j) ∧ g' c = g c ∧ zz_ho h' n' ∧ (∀ k, k < n' → h' k < 81000000 ∧ g c ≤ h' k / 81) ∧ (∀ c', c' < 81 → g' c' ≠ 1000000 → cl c' = true ∨ c' = c ∨ zz_co h' n' (g' c' * 81 + c')) ∧ (∀ c', c' < 81 → cl c' = true → g' c' = g c') ∧ (n' ≤ n + 4 ∧ (cl c = true → n' = n)) ∧ (∀ m, m < 4 → ∀ d, zz_nb c m = some d → o d = true → g' d ≤ g c + w d) := by
    refine zz_for0 (fun K' i (r : (Nat → Int32) × Int32 × (Nat → Int32)) => f_X11_relax_L2 K tl (nI c) K' (nI i) r.1 r.2.1 r.2.2) 4 (fun i r => ∃ g' h' n', r.2.1 = nI n' ∧ (∀ k, k < n' → r.1 k = nI (h' k)) ∧ (∀ j, j < 81 → r.2.2 j = nI (g' j)) ∧ zz_so o w s 1000000 g' ∧ (∀ j, j < 81 → g' j ≤ g j) ∧ g' c = g c ∧ zz_ho h' n' ∧ (∀ k, k < n' → h' k < 81000000 ∧ g c ≤ h' k / 81) ∧ (∀ c', c' < 81 → g' c' ≠ 1000000 → cl c' = true ∨ c' = c ∨ zz_co h' n' (g' c' * 81 + c')) ∧ (∀ c', c' < 81 → cl c' = true → g' c' = g c') ∧ (n' ≤ n + i ∧ (cl c = true → n' = n)) ∧ (∀ m, m < i → ∀ d, zz_nb c m = some d → o d = true → g' d ≤ g c + w d)) (fun z => ∃ hp' fr' g' h' n', z = some (hp', nI n', fr') ∧ (∀ k, k < n' → hp' k = nI (h' k)) ∧ (∀ j, j < 81 → fr' j = nI (g' j)) ∧ zz_so o w s 1000000 g' ∧ (∀ j, j < 81 → g' j ≤ g j) ∧ g' c = g c ∧ zz_ho h' n' ∧ (∀ k, k < n' → h' k < 81000000 ∧ g c ≤ h' k / 81) ∧ (∀ c', c' < 81 → g' c' ≠ 1000000 → cl c' = true ∨ c' = c ∨ zz_co h' n' (g' c' * 81 + c')) ∧ (∀ c', c' < 81 → cl c' = true → g' c' = g c') ∧ (n' ≤ n + 4 ∧ (cl c = true → n' = n)) ∧ (∀ m, m < 4 → ∀ d, zz_nb c m = some d → o d = true → g' d ≤ g c + w d)) ?_ ?_ K (hp, nI n, fr) (by omega) ⟨g, h, n, rfl, hr, hf, hso, fun _ _ => Nat.le_refl _, rfl, hho, hen, hcov, fun _ _ _ => rfl, ⟨Nat.le_refl _, fun _ => rfl⟩, fun m hm => by omega⟩
    · intro k r hr'
      obtain ⟨g', h', n', a1, a2⟩ := hr'
      refine ⟨r.1, r.2.2, g', h', n', ?_, a2⟩
      show f_X11_relax_L2 K tl (nI c) (k + 1) (nI 4) r.1 r.2.1 r.2.2 = _
      rw [f_X11_relax_L2, if_pos (by decide), a1]
    · intro k i r hi hr' ih
      obtain ⟨g', h', n', a1, a2, a3, a4, a5, a6, a7, a8, a9, a10, a11, a12⟩ := hr'
      have hgc1 := (a4 c hc).1
      show ∃ hp' fr' g' h' n', f_X11_relax_L2 K tl (nI c) (k + 1) (nI i) r.1 r.2.1 r.2.2 = some (hp', nI n', fr') ∧ _
      rw [f_X11_relax_L2, zz_l4, if_neg (nI_ge hi (by decide)), zc_neighbour _ hc i hi, zz_b, nI_1]
      have hskip : (∀ d, zz_nb c i = some d → o d = true → g' d ≤ g c + w d) → ∃ hp' fr' g' h' n', f_X11_relax_L2 K tl (nI c) k (nI (i + 1)) r.1 r.2.1 r.2.2 = some (hp', nI n', fr') ∧ (∀ k, k < n' → hp' k = nI (h' k)) ∧ (∀ j, j < 81 → fr' j = nI (g' j)) ∧ zz_so o w s 1000000 g' ∧ (∀ j, j < 81 → g' j ≤ g j) ∧ g' c = g c ∧ zz_ho h' n' ∧ (∀ k, k < n' → h' k < 81000000 ∧ g c ≤ h' k / 81) ∧ (∀ c', c' < 81 → g' c' ≠ 1000000 → cl c' = true ∨ c' = c ∨ zz_co h' n' (g' c' * 81 + c')) ∧ (∀ c', c' < 81 → cl c' = true → g' c' = g c') ∧ (n' ≤ n + 4 ∧ (cl c = true → n' = n)) ∧ (∀ m, m < 4 → ∀ d, zz_nb c m = some d → o d = true → g' d ≤ g c + w d) := by
        intro hs
        refine ih r ⟨g', h', n', a1, a2, a3, a4, a5, a6, a7, a8, a9, a10, ⟨by omega, a11.2⟩, fun m hm d hd ho => ?_⟩
        by_cases e : m = i
        · rw [e] at hd
          exact hs d hd ho
        · exact a12 m (by omega) d hd ho
      cases hn : zz_nb c i with
      | none =>
        rw [zz_on, if_pos (by first | rfl | decide)]
        exact hskip (fun d hd => by rw [hn] at hd; cases hd)
      | some d =>
        have hd := zz_nb_lt _ hc i hi d hn
        have hwd := hw d hd
        have hgd1 := (a4 d hd).1
        rw [zz_os, if_neg (zz_n1 (by omega)), zz_g hd (by decide), nI_clamp (by omega), htl d hd]
        cases ho : o d with
        | false =>
          rw [if_neg (show ¬ (false = true) by decide), if_pos (by first | rfl | decide)]
          exact hskip (fun d' hd' ho' => by
            rw [hn] at hd'
            cases hd'
            rw [ho] at ho'
            cases ho')
        | true =>
          rw [if_pos (show true = true from rfl), if_neg (zz_n1 (by omega)), zz_g hc (by decide), zz_g hd (by decide), zz_g hd (by decide), nI_clamp (by omega), a3 c hc, a3 d hd, nI_add, a6]
          rw [a6] at hgc1
          by_cases e : g' d ≤ g c + w d
          · rw [if_pos (nI_le e (by omega))]
            exact hskip (fun d' hd' ho' => by
              rw [hn] at hd'
              cases hd'
              exact e)
          · have hclf : cl c = false := by
              cases q : cl c with
              | false => rfl
              | true =>
                have := hdone q i hi d hn ho
                have := a5 d hd
                omega
            have hcap2 := hcap hclf
            have hdc : d ≠ c := by
              intro q
              rw [q, a6] at e
              omega
            rw [if_neg (nI_ge (by omega) (by omega)), zz_g hc (by decide), zz_g hd (by decide), zz_g hd (by decide), zz_g hd (by decide), pk_us, zz_l81, pk_mul, nI_add, a1]
            obtain ⟨hp2, h2, p1, p2, p3, p4⟩ := zc_push (hp := r.1) (h := h') (n := n') (x := (g c + w d) * 81 + d) hK (by omega) (by omega) (fun k hk => by have := (a8 k hk).1; omega) a2 a7
            rw [p1, zz_b]
            have hgd : zz_u g' d (g c + w d) d = g c + w d := zz_us _ _ _
            refine ih (hp2, nI (n' + 1), upd r.2.2 d (nI (g c + w d))) ⟨zz_u g' d (g c + w d), h2, n' + 1, rfl, p2, fun j hj => ?_, fun j hj => ?_, fun j hj => ?_, ?_, p3, fun k hk => ?_, fun c' hc' hne => ?_, fun c' hc' hcl' => ?_, ⟨by omega, fun q => by rw [hclf] at q; cases q⟩, fun m hm d' hd' ho' => ?_⟩
            · show upd r.2.2 d (nI (g c + w d)) j = _
              rw [zz_upd, zz_uv]
              by_cases q : j = d
              · rw [if_pos q, if_pos q]
              · rw [if_neg q, if_neg q]; exact a3 j hj
            · by_cases q : j = d
              · rw [q, hgd]
                refine ⟨by omega, Or.inr ?_⟩
                rcases (hso c hc).2 with q2 | ⟨m, q2⟩
                · exact absurd q2 hgc
                · exact ⟨m + 1, c, g c, i, hc, hi, q2, hn, ho, rfl⟩
              · rw [zz_un _ _ q]; exact a4 j hj
            · rw [zz_uv]
              by_cases q : j = d
              · rw [if_pos q, q]
                have := a5 d hd
                omega
              · rw [if_neg q]; exact a5 j hj
            · rw [zz_un _ _ (Ne.symm hdc)]
              exact a6
            · rcases (p4 (h2 k)).mp ⟨k, hk, rfl⟩ with q | ⟨k', q1, q2⟩
              · rw [q]
                refine ⟨by omega, ?_⟩
                rw [show ((g c + w d) * 81 + d) / 81 = g c + w d by omega]
                omega
              · rw [← q2]; exact a8 k' q1
            · by_cases q : c' = d
              · rw [q, hgd]
                exact Or.inr (Or.inr ((p4 _).mpr (Or.inl rfl)))
              · rw [zz_un _ _ q] at hne ⊢
                rcases a9 c' hc' hne with q2 | q2 | q2
                · exact Or.inl q2
                · exact Or.inr (Or.inl q2)
                · exact Or.inr (Or.inr ((p4 _).mpr (Or.inr q2)))
            · have q1 := a10 c' hc' hcl'
              have q2 := hcl c' hc' hcl'
              have q : c' ≠ d := by
                intro q
                rw [q] at q1 q2
                omega
              rw [zz_un _ _ q]
              exact q1
            · by_cases q : d' = d
              · rw [q, hgd]
                exact Nat.le_refl _
              · rw [zz_un _ _ q]
                by_cases q2 : m = i
                · rw [q2, hn] at hd'
                  cases hd'
                  exact absurd rfl q
                · exact a12 m (by omega) d' hd' ho'
  obtain ⟨hp', fr', g', h', n', b1, b2⟩ := hL
  refine ⟨hp', fr', g', h', n', ?_, b2⟩
  rw [f_X11_relax]
  show (f_X11_relax_L2 K tl (nI c) K (nI 0) hp (nI n) fr).bind _ = _
  rw [b1]
  rfl
theorem zc_heap (hK : 1000 ≤ K) (htl : zz_tl o w tl) (hw : ∀ c, c < 81 → w c ≤ 2) (hs : s < 81) (hos : o s = true) (heap row : Nat → Int32) : ∃ hp n f, f_X11_searchByHeap K tl heap row (nI s) = some (hp, n, f) ∧ zz_is o w s 1000000 f := by
  obtain ⟨f0, h1, h2⟩ := zc_beginF (K := K) (w := w) (by omega) htl hw hs row
  have h2s := h2 s hs
  rw [hos] at h2s h2
  rw [if_pos ⟨rfl, rfl⟩] at h2s
  have hg0 : ∀ c, (if c = s ∧ true = true then 0 else 1000000) = if c = s then 0 else 1000000 := by
    intro c
    by_cases e : c = s
    · rw [if_pos e, if_pos ⟨e, rfl⟩]
    · rw [if_neg e, if_neg (fun q => e q.1)]
  obtain ⟨hp1, hh1, p1, p2, p3, p4⟩ := zc_push (hp := heap) (h := fun _ => 0) (n := 0) (x := s) hK (by decide) (by omega) (fun k hk => by omega) (fun k hk => by omega) (fun k _ hk => by omega)
  have hL : ∃ hp n f, f_X11_searchByHeap_L30 K tl K (nI 0) hp1 (nI 1) f0 = some (hp, n, f) ∧ zz_is o w s 1000000 f := by
    have hend : ∀ (g h : Nat → Nat) (cl : Nat → Bool) (D i : Nat) (fr : Nat → Int32), (∀ c, c < 81 → fr c = nI (g c)) → zz_DI o w s g h 0 cl D i → zz_is o w s 1000000 fr := by
      intro g h cl D i fr hf hd
      refine zz_is_of hw hs (by decide) hf hd.1 (fun n d c _ hk => zz_cl_wk hs hd.2.1 (fun c' m c g1 g2 g4 g5 => ?_) n d c hk)
      by_cases e : g c' = 1000000
      · have := (hd.1 c (zz_nb_s g1 g2 g4).2).1
        omega
      · rcases hd.2.2.2.2.1 c' g1 e with q | ⟨k, q, _⟩
        · exact (hd.2.2.2.2.2.1 c' g1 q).2.2 m g2 c g4 g5
        · omega
    refine zz_for0 (fun K' i (r : (Nat → Int32) × Int32 × (Nat → Int32)) => f_X11_searchByHeap_L30 K tl K' (nI i) r.1 r.2.1 r.2.2) 325 (fun i r => ∃ g h n cl D, r.2.1 = nI n ∧ (∀ k, k < n → r.1 k = nI (h k)) ∧ (∀ c, c < 81 → r.2.2 c = nI (g c)) ∧ zz_DI o w s g h n cl D i) (fun z => ∃ hp n f, z = some (hp, n, f) ∧ zz_is o w s 1000000 f) ?_ ?_ K (hp1, nI 1, f0) (by omega) ⟨fun c => if c = s ∧ true = true then 0 else 1000000, hh1, 1, fun _ => false, 0, rfl, p2, h2, ?_⟩
    · intro k r hr
      obtain ⟨g, h, n, cl, D, k1, k2, k3, k4⟩ := hr
      have hcc := zz_cc_le (cl := cl)
      have h7 := k4.2.2.2.2.2.2
      have hn0 : n = 0 := by omega
      subst hn0
      refine ⟨r.1, r.2.1, r.2.2, ?_, hend g h cl D 325 _ k3 k4⟩
      show f_X11_searchByHeap_L30 K tl (k + 1) (nI 325) r.1 r.2.1 r.2.2 = _
      rw [f_X11_searchByHeap_L30, if_pos (by decide)]
    · intro k i r hi hr ih
      obtain ⟨g, h, n, cl, D, k1, k2, k3, k4⟩ := hr
      have hcc := zz_cc_le (cl := cl)
      obtain ⟨d1, d2, d3, d4, d5, d6, d7⟩ := id k4
      show ∃ hp n f, f_X11_searchByHeap_L30 K tl (k + 1) (nI i) r.1 r.2.1 r.2.2 = some (hp, n, f) ∧ _
      rw [f_X11_searchByHeap_L30, zz_l325, if_neg (nI_ge hi (by decide)), k1]
      by_cases hn0 : n = 0
      · subst hn0
        rw [if_pos (by decide)]
        exact ⟨_, _, _, rfl, hend g h cl D i _ k3 k4⟩
      · obtain ⟨hp2, h2', q1, q2, q3, q4, q5⟩ := zc_pop (hp := r.1) (h := h) (n := n) hK (by omega) (by omega) (fun k hk => by have := (d4 k hk).1; omega) k2 d3
        have he := d4 0 (by omega)
        have hmin := zz_ho_min d3
        generalize hez : h 0 = e at *
        have hc81 : e % 81 < 81 := Nat.mod_lt _ (by decide)
        rw [if_neg (nI_nle (by omega) (by omega)), q1, zz_b]
        show ∃ hp nn f, mm_g (mm_ck (nI e - nI e / 81 * 81) 81) (if nI e / 81 = (r.2.2 (nI e - nI e / 81 * 81).toNatClampNeg) then (f_X11_relax K tl hp2 (nI (n - 1)) r.2.2 (nI e - nI e / 81 * 81)).bind _ else _) = some (hp, nn, f) ∧ _
        rw [zz_l81, pk_rem (by omega) (by decide) (by decide), pk_div (by omega) (by decide) (by decide), zz_g hc81 (by decide), nI_clamp (by omega), k3 _ hc81, nI_1]
        have hgle := (d1 _ hc81).1
        have hee : e = e / 81 * 81 + e % 81 := by omega
        have hen2 : ∀ k, k < n - 1 → h2' k < 81000000 ∧ e / 81 ≤ h2' k / 81 := by
          intro j hj
          obtain ⟨j', j1, j2⟩ := q4 _ ⟨j, hj, rfl⟩
          have b1 := d4 j' j1
          have b2 := hmin j' j1
          rw [j2] at b1 b2
          exact ⟨b1.1, Nat.div_le_div_right b2⟩
        by_cases hst : e / 81 = g (e % 81)
        · rw [if_pos (by rw [hst])]
          have hgc : g (e % 81) ≠ 1000000 := by omega
          obtain ⟨hp3, fr3, g3, h3, n3, b1, b2, b3, b4, b5, b6, b7, b8, b9, b10, b11, b12⟩ := zc_relax (cl := cl) (hp := hp2) (fr := r.2.2) (n := n - 1) (h := h2') hK htl hw hc81 d1 hgc q3 (fun k hk => by rw [← hst]; exact hen2 k hk) (fun c' hc' hne => by
            rcases d5 c' hc' hne with q | q
            · exact Or.inl q
            · by_cases z : g c' * 81 + c' = e
              · right; left
                omega
              · exact Or.inr (Or.inr (q5 _ q z))) (fun c' hc' hcl' => by
            have := (d6 c' hc' hcl').1
            omega) (fun q => (d6 _ hc81 q).2.2) (fun q => by
            have := zz_cc_lt hc81 q
            have := zz_cc_le (cl := fun j => if j = e % 81 then true else cl j)
            omega) q2 k3
          rw [b1, zz_b]
          have hcl' : ∀ c', c' < 81 → (if c' = e % 81 then true else cl c') = true → g3 c' ≤ e / 81 ∧ g3 c' ≠ 1000000 ∧ ∀ m, m < 4 → ∀ d, zz_nb c' m = some d → o d = true → g3 d ≤ g3 c' + w d := by
            intro c' hc' hx
            by_cases z : c' = e % 81
            · rw [z, b6]
              exact ⟨by omega, hgc, b12⟩
            · rw [if_neg z] at hx
              obtain ⟨x1, x2, x3⟩ := d6 c' hc' hx
              rw [b10 c' hc' hx]
              refine ⟨by omega, x2, fun m hm d hd ho => ?_⟩
              have := x3 m hm d hd ho
              have := b5 d (zz_nb_lt _ hc' m hm d hd)
              omega
          have hcov' : ∀ c', c' < 81 → g3 c' ≠ 1000000 → (if c' = e % 81 then true else cl c') = true ∨ zz_co h3 n3 (g3 c' * 81 + c') := by
            intro c' hc' hne
            rcases b9 c' hc' hne with q | q | q
            · left
              by_cases z : c' = e % 81
              · rw [if_pos z]
              · rw [if_neg z]; exact q
            · left
              rw [if_pos q]
            · exact Or.inr q
          refine ih (hp3, nI n3, fr3) ⟨g3, h3, n3, fun j => if j = e % 81 then true else cl j, e / 81, rfl, b2, b3, b4, ?_, b7, fun k hk => by rw [hst]; exact b8 k hk, hcov', hcl', ?_⟩
          · have := b5 s hs
            omega
          · cases q : cl (e % 81) with
            | true =>
              have e1 : zz_cc (fun j => if j = e % 81 then true else cl j) = zz_cc cl := zz_sm_c (fun j hj => by
                show (if (if j = e % 81 then true else cl j) = true then 1 else 0) = if cl j = true then 1 else 0
                by_cases z : j = e % 81
                · rw [if_pos z, z, q]
                · rw [if_neg z])
              have := b11.2 q
              omega
            | false =>
              have := zz_cc_lt hc81 q
              have := b11.1
              omega
        · rw [if_neg (zz_ne hst (by omega) (by omega))]
          refine ih (hp2, nI (n - 1), r.2.2) ⟨g, h2', n - 1, cl, e / 81, rfl, q2, k3, d1, d2, q3, hen2, fun c' hc' hne => ?_, fun c' hc' hcl' => ?_, by omega⟩
          · rcases d5 c' hc' hne with q | q
            · exact Or.inl q
            · refine Or.inr (q5 _ q (fun z => hst ?_))
              have z1 : e % 81 = c' := by omega
              have z2 : e / 81 = g c' := by omega
              rw [z1, z2]
          · obtain ⟨x1, x2⟩ := d6 c' hc' hcl'
            exact ⟨by omega, x2⟩
    · have hco1 : zz_co hh1 1 (0 * 81 + s) := (p4 _).mpr (Or.inl (by omega))
      refine ⟨fun c hc => ?_, ?_, p3, fun k hk => ?_, fun c hc hne => ?_, fun c hc hcl => (by cases hcl), by omega⟩
      · show (if c = s ∧ true = true then 0 else 1000000) ≤ _ ∧ ((if c = s ∧ true = true then 0 else 1000000) = _ ∨ ∃ n, zz_wk o w s n (if c = s ∧ true = true then 0 else 1000000) c)
        rw [hg0]
        by_cases e : c = s
        · rw [if_pos e]
          exact ⟨by omega, Or.inr ⟨0, rfl, e⟩⟩
        · rw [if_neg e]
          exact ⟨Nat.le_refl _, Or.inl rfl⟩
      · show (if s = s ∧ true = true then 0 else 1000000) = 0
        rw [hg0, if_pos rfl]
      · rcases (p4 (hh1 k)).mp ⟨k, hk, rfl⟩ with q | ⟨k', q1, _⟩
        · rw [q]
          exact ⟨by omega, Nat.zero_le _⟩
        · omega
      · have hne2 : (if c = s ∧ true = true then 0 else 1000000) ≠ 1000000 := hne
        rw [hg0] at hne2
        right
        show zz_co hh1 1 ((if c = s ∧ true = true then 0 else 1000000) * 81 + c)
        rw [hg0]
        by_cases e : c = s
        · rw [if_pos e, e]; exact hco1
        · rw [if_neg e] at hne2
          exact absurd rfl hne2
  obtain ⟨hp, n, f, g1, g2⟩ := hL
  refine ⟨hp, n, f, ?_, g2⟩
  rw [f_X11_searchByHeap, h1, zz_b, zz_g hs (by decide), nI_clamp (by omega), h2s, if_pos (by first | rfl | decide)]
  show ((f_X11_pushEntry K heap (nI 0) (nI s)).bind _) = _
  rw [p1, zz_b]
  show (f_X11_searchByHeap_L30 K tl K (nI 0) hp1 (nI 1) f0).bind _ = _
  rw [g1]
  rfl
end ZDI
