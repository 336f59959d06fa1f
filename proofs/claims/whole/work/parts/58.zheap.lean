-- the heap
def zz_ho (h : Nat → Nat) (n : Nat) : Prop := ∀ i, 0 < i → i < n → h ((i - 1) / 2) ≤ h i
def zz_co (h : Nat → Nat) (n e : Nat) : Prop := ∃ k, k < n ∧ h k = e
theorem zz_ho_min {h : Nat → Nat} {n : Nat} (ho : zz_ho h n) : ∀ k, k < n → h 0 ≤ h k := by
  intro k
  induction k using Nat.strongRecOn with
  | ind k ih =>
    intro hk
    by_cases e : k = 0
    · subst e
      exact Nat.le_refl _
    · have := ih ((k - 1) / 2) (by omega) (by omega)
      have := ho k (by omega) hk
      omega
/-- two places exchanged -/
def zz_sw (h : Nat → Nat) (a b : Nat) : Nat → Nat := fun j => if j = a then h b else if j = b then h a else h j
theorem zz_sw_a (h : Nat → Nat) (a b : Nat) : zz_sw h a b a = h b := if_pos rfl
theorem zz_sw_b (h : Nat → Nat) (a b : Nat) : zz_sw h a b b = h a := by
  unfold zz_sw
  by_cases e : b = a
  · rw [if_pos e, e]
  · rw [if_neg e, if_pos rfl]
theorem zz_sw_o (h : Nat → Nat) {a b j : Nat} (h1 : j ≠ a) (h2 : j ≠ b) : zz_sw h a b j = h j := by
  unfold zz_sw
  rw [if_neg h1, if_neg h2]
theorem zz_sw_co {h : Nat → Nat} {a b n e : Nat} (ha : a < n) (hb : b < n) : zz_co (zz_sw h a b) n e ↔ zz_co h n e := by
  constructor
  · rintro ⟨k, h1, h2⟩
    by_cases e1 : k = a
    · rw [e1, zz_sw_a] at h2
      exact ⟨b, hb, h2⟩
    · by_cases e2 : k = b
      · rw [e2, zz_sw_b] at h2
        exact ⟨a, ha, h2⟩
      · rw [zz_sw_o h e1 e2] at h2
        exact ⟨k, h1, h2⟩
  · rintro ⟨k, h1, h2⟩
    by_cases e1 : k = a
    · exact ⟨b, hb, by rw [zz_sw_b, ← e1]; exact h2⟩
    · by_cases e2 : k = b
      · exact ⟨a, ha, by rw [zz_sw_a, ← e2]; exact h2⟩
      · exact ⟨k, h1, by rw [zz_sw_o h e1 e2]; exact h2⟩
section ZHP
variable {K : Nat} {hp : Nat → Int32} {h : Nat → Nat} {n x : Nat}
theorem zc_push (hK : 1000 ≤ K) (hn : n < 325) (hx : x < 2 ^ 31) (hb : ∀ k, k < n → h k < 2 ^ 31) (hr : ∀ k, k < n → hp k = nI (h k)) (ho : zz_ho h n) : ∃ hp' h', f_X11_pushEntry K hp (nI n) (nI x) = some (hp', nI (n + 1)) ∧ (∀ k, k < n + 1 → hp' k = nI (h' k)) ∧ zz_ho h' (n + 1) ∧ ∀ e, zz_co h' (n + 1) e ↔ (e = x ∨ zz_co h n e) := by
  have hL : ∃ a hp' H, f_X11_pushEntry_L26 (nI x) K (nI n) hp = some (nI a, hp') ∧ a < n + 1 ∧ H a = x ∧ (∀ k, k < n + 1 → k ≠ a → hp' k = nI (H k)) ∧ zz_ho H (n + 1) ∧ ∀ e, zz_co H (n + 1) e ↔ (e = x ∨ zz_co h n e) := by
    refine zz_while (fun K (r : Nat × (Nat → Nat) × (Nat → Int32)) => f_X11_pushEntry_L26 (nI x) K (nI r.1) r.2.2) (fun r => r.1 < n + 1 ∧ r.2.1 r.1 = x ∧ (∀ k, k < n + 1 → r.2.1 k < 2 ^ 31) ∧ (∀ k, k < n + 1 → k ≠ r.1 → r.2.2 k = nI (r.2.1 k)) ∧ (∀ i, 0 < i → i < n + 1 → i ≠ r.1 → r.2.1 ((i - 1) / 2) ≤ r.2.1 i) ∧ (∀ i, 0 < i → i < n + 1 → (i - 1) / 2 = r.1 → 0 < r.1 → r.2.1 ((r.1 - 1) / 2) ≤ r.2.1 i) ∧ ∀ e, zz_co r.2.1 (n + 1) e ↔ (e = x ∨ zz_co h n e)) (fun r => r.1) (fun z => ∃ a hp' H, z = some (nI a, hp') ∧ a < n + 1 ∧ H a = x ∧ (∀ k, k < n + 1 → k ≠ a → hp' k = nI (H k)) ∧ zz_ho H (n + 1) ∧ ∀ e, zz_co H (n + 1) e ↔ (e = x ∨ zz_co h n e)) ?_ n K (n, zz_u h n x, hp) (Nat.le_refl _) (by omega) ⟨by show n < n + 1; omega, zz_us _ _ _, fun k hk => ?_, fun k hk hne => ?_, fun i h0 hi hne => ?_, fun i h0 hi hp0 => ?_, fun e => ?_⟩
    · intro k r hr ih
      obtain ⟨a, H, row⟩ := r
      obtain ⟨h1, h2, h3, h4, h5, h6, h7⟩ := hr
      have h1 : a < n + 1 := h1
      have h2 : H a = x := h2
      have h3 : ∀ k, k < n + 1 → H k < 2 ^ 31 := h3
      have h4 : ∀ k, k < n + 1 → k ≠ a → row k = nI (H k) := h4
      have h5 : ∀ i, 0 < i → i < n + 1 → i ≠ a → H ((i - 1) / 2) ≤ H i := h5
      have h6 : ∀ i, 0 < i → i < n + 1 → (i - 1) / 2 = a → 0 < a → H ((a - 1) / 2) ≤ H i := h6
      have h7 : ∀ e, zz_co H (n + 1) e ↔ (e = x ∨ zz_co h n e) := h7
      show ∃ b hp' H', f_X11_pushEntry_L26 (nI x) (k + 1) (nI a) row = some (nI b, hp') ∧ _
      rw [f_X11_pushEntry_L26]
      by_cases e0 : a = 0
      · rw [if_pos (by rw [e0]; decide)]
        refine ⟨a, row, H, rfl, h1, h2, h4, fun i h0 hi => h5 i h0 hi (by omega), h7⟩
      · have hpa : (a - 1) / 2 < a := by omega
        rw [if_neg (nI_nle (by omega) (by omega)), zz_l1, zz_l2, pk_sub (by omega), pk_div (by omega) (by decide) (by decide), zz_g (by omega) (by decide), nI_clamp (by omega), h4 _ (by omega) (by omega)]
        have hp3 := h3 ((a - 1) / 2) (by omega)
        by_cases e1 : H ((a - 1) / 2) ≤ x
        · rw [if_pos (nI_le e1 hx)]
          refine ⟨a, row, H, rfl, h1, h2, h4, fun i h0 hi => ?_, h7⟩
          by_cases e2 : i = a
          · rw [e2, h2]; exact e1
          · exact h5 i h0 hi e2
        · rw [if_neg (nI_ge (by omega) hp3), zz_g (by omega) (by decide), zz_g (by omega) (by decide), nI_clamp (by omega)]
          generalize hpp : (a - 1) / 2 = p at *
          have s1 := zz_sw_a H a p
          have s2 := zz_sw_b H a p
          have s3 : ∀ j, j ≠ a → j ≠ p → zz_sw H a p j = H j := fun j q1 q2 => zz_sw_o H q1 q2
          have s4 : ∀ e, zz_co (zz_sw H a p) (n + 1) e ↔ zz_co H (n + 1) e := fun e => zz_sw_co h1 (by omega)
          generalize zz_sw H a p = H2 at *
          refine ih (p, H2, upd row a (nI (H p))) ⟨by show p < n + 1; omega, by show H2 p = x; rw [s2, h2], fun j hj => ?_, fun j hj hne => ?_, fun i h0 hi hne => ?_, fun i h0 hi hip hp0 => ?_, fun e => ?_⟩ (by show p < a; omega)
          · show H2 j < 2 ^ 31
            by_cases q1 : j = a
            · rw [q1, s1]; exact hp3
            · by_cases q2 : j = p
              · rw [q2, s2, h2]; exact hx
              · rw [s3 j q1 q2]; exact h3 j hj
          · show upd row a (nI (H p)) j = nI (H2 j)
            have hne : j ≠ p := hne
            rw [zz_upd]
            by_cases q1 : j = a
            · rw [if_pos q1, q1, s1]
            · rw [if_neg q1, s3 j q1 hne]; exact h4 j hj q1
          · show H2 ((i - 1) / 2) ≤ H2 i
            have hne : i ≠ p := hne
            by_cases q1 : i = a
            · rw [q1, hpp, s2, s1, h2]; omega
            · rw [s3 i q1 hne]
              by_cases q2 : (i - 1) / 2 = a
              · rw [q2, s1]
                exact h6 i h0 hi q2 (by omega)
              · by_cases q3 : (i - 1) / 2 = p
                · rw [q3, s2, h2]
                  have := h5 i h0 hi q1
                  rw [q3] at this
                  omega
                · rw [s3 _ q2 q3]
                  exact h5 i h0 hi q1
          · show H2 ((p - 1) / 2) ≤ H2 i
            have hip : (i - 1) / 2 = p := hip
            have hp0 : 0 < p := hp0
            rw [s3 _ (by omega) (by omega)]
            have g1 := h5 p hp0 (by omega) (by omega)
            by_cases q1 : i = a
            · rw [q1, s1]; exact g1
            · rw [s3 i q1 (by omega)]
              have := h5 i h0 hi q1
              rw [hip] at this
              omega
          · show zz_co H2 (n + 1) e ↔ _
            rw [s4, h7]
    · show zz_u h n x k < 2 ^ 31
      rw [zz_uv]
      by_cases e : k = n
      · rw [if_pos e]; exact hx
      · rw [if_neg e]; exact hb k (by omega)
    · show hp k = nI (zz_u h n x k)
      rw [zz_un _ _ hne]
      have hne : k ≠ n := hne
      exact hr k (by omega)
    · show zz_u h n x ((i - 1) / 2) ≤ zz_u h n x i
      have hne : i ≠ n := hne
      rw [zz_un _ _ (by omega), zz_un _ _ hne]
      exact ho i h0 (by omega)
    · have hp0 : (i - 1) / 2 = n := hp0
      omega
    · constructor
      · rintro ⟨k, k1, k2⟩
        by_cases q : k = n
        · rw [q] at k2
          have k2 : zz_u h n x n = e := k2
          rw [zz_us] at k2
          exact Or.inl k2.symm
        · have k2 : zz_u h n x k = e := k2
          rw [zz_un _ _ q] at k2
          exact Or.inr ⟨k, by omega, k2⟩
      · rintro (q | ⟨k, k1, k2⟩)
        · refine ⟨n, by omega, ?_⟩
          show zz_u h n x n = e
          rw [zz_us, q]
        · refine ⟨k, by omega, ?_⟩
          show zz_u h n x k = e
          rw [zz_un _ _ (by omega), k2]
  obtain ⟨a, hp', H, h1, h2, h3, h4, h5, h6⟩ := hL
  refine ⟨upd hp' a (nI x), H, ?_, fun k hk => ?_, h5, h6⟩
  · rw [f_X11_pushEntry, zz_l325, if_pos (nI_lt hn (by decide)), h1, zz_b]
    show mm_g (mm_ck (nI a) 325) _ = _
    rw [zz_g (by omega) (by decide), nI_1]
    show some (upd hp' (nI a).toNatClampNeg (nI x), nI (n + 1)) = _
    rw [nI_clamp (by omega)]
  · rw [zz_upd]
    by_cases e : k = a
    · rw [if_pos e, e, h3]
    · rw [if_neg e]; exact h4 k hk e
theorem zc_lesser {m a : Nat} {row : Nat → Int32} {H : Nat → Nat} (hm : m ≤ 325) (ha : a < 400) (hb : ∀ k, k < m → H k < 2 ^ 31) (hr : ∀ k, k < m → k ≠ a → row k = nI (H k)) : ∃ c, f_X11_lesserChild row (nI m) (nI a) = some (nI c) ∧ (c = 2 * a + 1 ∨ c = 2 * a + 2) ∧ (m ≤ c → m ≤ 2 * a + 1) ∧ (c < m → ∀ i, (i = 2 * a + 1 ∨ i = 2 * a + 2) → i < m → H c ≤ H i) := by
  rw [f_X11_lesserChild, zz_l2, pk_mul, nI_1, nI_1]
  by_cases e : m ≤ 2 * a + 1 + 1
  · rw [if_pos (nI_le e (by omega))]
    refine ⟨2 * a + 1, rfl, Or.inl rfl, fun q => q, fun q i hi him => ?_⟩
    rcases hi with hi | hi
    · rw [hi]; exact Nat.le_refl _
    · omega
  · have b1 := hb (2 * a + 1) (by omega)
    have b2 := hb (2 * a + 1 + 1) (by omega)
    rw [if_neg (nI_ge (by omega) (by omega)), zz_g (by omega) (by decide), zz_g (by omega) (by decide), nI_clamp (by omega), nI_clamp (by omega), hr _ (by omega) (by omega), hr _ (by omega) (by omega)]
    by_cases g : H (2 * a + 1) ≤ H (2 * a + 1 + 1)
    · rw [if_pos (nI_le g (by omega))]
      refine ⟨2 * a + 1, rfl, Or.inl rfl, fun q => q, fun q i hi him => ?_⟩
      rcases hi with hi | hi
      · rw [hi]; exact Nat.le_refl _
      · rw [hi]; exact g
    · rw [if_neg (nI_ge (by omega) (by omega))]
      refine ⟨2 * a + 1 + 1, rfl, Or.inr rfl, fun q => by omega, fun q i hi him => ?_⟩
      rcases hi with hi | hi
      · rw [hi]; omega
      · rw [hi]; exact Nat.le_refl _
theorem zc_pop (hK : 1000 ≤ K) (h0 : 0 < n) (hn : n ≤ 325) (hb : ∀ k, k < n → h k < 2 ^ 31) (hr : ∀ k, k < n → hp k = nI (h k)) (ho : zz_ho h n) : ∃ hp' h', f_X11_popEntry K hp (nI n) = some (nI (h 0), hp', nI (n - 1)) ∧ (∀ k, k < n - 1 → hp' k = nI (h' k)) ∧ zz_ho h' (n - 1) ∧ (∀ e, zz_co h' (n - 1) e → zz_co h n e) ∧ ∀ e, zz_co h n e → e ≠ h 0 → zz_co h' (n - 1) e := by
  obtain ⟨m, rfl⟩ : ∃ m, n = m + 1 := ⟨n - 1, by omega⟩
  have hx := hb m (by omega)
  have hm1 : m + 1 - 1 = m := by omega
  rw [hm1]
  by_cases hm0 : m = 0
  · subst hm0
    obtain ⟨k, rfl⟩ : ∃ k, K = k + 1 := ⟨K - 1, by omega⟩
    refine ⟨upd hp 0 (nI (h 0)), h, ?_, fun k hk => by omega, fun i _ hi => by omega, fun e ⟨k, k1, _⟩ => by omega, fun e ⟨k, k1, k2⟩ hne => ?_⟩
    · have e1 : f_X11_lesserChild hp (nI 0) 0 = some (nI 1) := by
        rw [f_X11_lesserChild, if_pos (by decide)]
        rfl
      rw [f_X11_popEntry, nI_pred, zz_g (by decide) (by decide), e1, zz_b, nI_clamp (by decide), hr 0 (by omega), f_X11_popEntry_L36, if_pos (by decide), zz_b]
      show mm_g (mm_ck (nI 0) 325) _ = _
      rw [zz_g (by decide) (by decide)]
      rfl
    · have : k = 0 := by omega
      subst this
      exact absurd k2.symm hne
  · obtain ⟨c0, hc0, hc1, hc2, hc3⟩ := zc_lesser (m := m) (a := 0) (row := hp) (H := zz_u h 0 (h m)) (by omega) (by omega) (fun k hk => by
      rw [zz_uv]
      split
      · exact hx
      · exact hb k (by omega)) (fun k hk hne => by
      rw [zz_un _ _ hne]
      exact hr k (by omega))
    have hL : ∃ a hp' H, f_X11_popEntry_L36 (nI m) (nI (h m)) K (nI 0) (nI c0) hp = some (nI a, hp') ∧ a < m ∧ H a = h m ∧ (∀ k, k < m → k ≠ a → hp' k = nI (H k)) ∧ zz_ho H m ∧ ∀ e, zz_co H m e ↔ zz_co (zz_u h 0 (h m)) m e := by
      refine zz_while (fun K (r : Nat × Nat × (Nat → Nat) × (Nat → Int32)) => f_X11_popEntry_L36 (nI m) (nI (h m)) K (nI r.1) (nI r.2.1) r.2.2.2) (fun r => r.1 < m ∧ r.2.2.1 r.1 = h m ∧ (∀ k, k < m → r.2.2.1 k < 2 ^ 31) ∧ (∀ k, k < m → k ≠ r.1 → r.2.2.2 k = nI (r.2.2.1 k)) ∧ (∀ i, 0 < i → i < m → (i - 1) / 2 ≠ r.1 → r.2.2.1 ((i - 1) / 2) ≤ r.2.2.1 i) ∧ (∀ i, 0 < i → i < m → (i - 1) / 2 = r.1 → 0 < r.1 → r.2.2.1 ((r.1 - 1) / 2) ≤ r.2.2.1 i) ∧ (∀ e, zz_co r.2.2.1 m e ↔ zz_co (zz_u h 0 (h m)) m e) ∧ (r.2.1 = 2 * r.1 + 1 ∨ r.2.1 = 2 * r.1 + 2) ∧ (m ≤ r.2.1 → m ≤ 2 * r.1 + 1) ∧ (r.2.1 < m → ∀ i, (i = 2 * r.1 + 1 ∨ i = 2 * r.1 + 2) → i < m → r.2.2.1 r.2.1 ≤ r.2.2.1 i)) (fun r => m - r.1) (fun z => ∃ a hp' H, z = some (nI a, hp') ∧ a < m ∧ H a = h m ∧ (∀ k, k < m → k ≠ a → hp' k = nI (H k)) ∧ zz_ho H m ∧ ∀ e, zz_co H m e ↔ zz_co (zz_u h 0 (h m)) m e) ?_ m K (0, c0, zz_u h 0 (h m), hp) (by show m - 0 ≤ m; omega) (by omega) ⟨by show 0 < m; omega, show zz_u h 0 (h m) 0 = h m from zz_us _ _ _, fun k hk => ?_, fun k hk hne => ?_, fun i i0 hi hne => ?_, fun i i0 hi hp0 hlt => absurd hlt (Nat.lt_irrefl 0), fun e => Iff.rfl, hc1, hc2, hc3⟩
      · intro k r hr ih
        obtain ⟨a, c, H, row⟩ := r
        obtain ⟨h1, h2, h3, h4, h5, h6, h7, h8, h9, h10⟩ := hr
        have h1 : a < m := h1
        have h2 : H a = h m := h2
        have h3 : ∀ k, k < m → H k < 2 ^ 31 := h3
        have h4 : ∀ k, k < m → k ≠ a → row k = nI (H k) := h4
        have h5 : ∀ i, 0 < i → i < m → (i - 1) / 2 ≠ a → H ((i - 1) / 2) ≤ H i := h5
        have h6 : ∀ i, 0 < i → i < m → (i - 1) / 2 = a → 0 < a → H ((a - 1) / 2) ≤ H i := h6
        have h7 : ∀ e, zz_co H m e ↔ zz_co (zz_u h 0 (h m)) m e := h7
        have h8 : c = 2 * a + 1 ∨ c = 2 * a + 2 := h8
        have h9 : m ≤ c → m ≤ 2 * a + 1 := h9
        have h10 : c < m → ∀ i, (i = 2 * a + 1 ∨ i = 2 * a + 2) → i < m → H c ≤ H i := h10
        show ∃ b hp' H', f_X11_popEntry_L36 (nI m) (nI (h m)) (k + 1) (nI a) (nI c) row = some (nI b, hp') ∧ _
        rw [f_X11_popEntry_L36]
        by_cases e0 : m ≤ c
        · rw [if_pos (nI_le e0 (by omega))]
          refine ⟨a, row, H, rfl, h1, h2, h4, fun i i0 hi => h5 i i0 hi ?_, h7⟩
          have := h9 e0
          omega
        · have hcm : c < m := by omega
          have hc31 := h3 c hcm
          rw [if_neg (nI_ge (by omega) (by omega)), zz_g (by omega) (by decide), nI_clamp (by omega), h4 c hcm (by omega)]
          by_cases e1 : h m ≤ H c
          · rw [if_pos (nI_le e1 hc31)]
            refine ⟨a, row, H, rfl, h1, h2, h4, fun i i0 hi => ?_, h7⟩
            by_cases e2 : (i - 1) / 2 = a
            · rw [e2, h2]
              have := h10 hcm i (by omega) hi
              omega
            · exact h5 i i0 hi e2
          · rw [if_neg (nI_ge (by omega) (by omega)), zz_g (by omega) (by decide), zz_g (by omega) (by decide), nI_clamp (by omega)]
            have hca : c ≠ a := by omega
            have hcp : (c - 1) / 2 = a := by omega
            have s1 := zz_sw_a H a c
            have s2 := zz_sw_b H a c
            have s3 : ∀ j, j ≠ a → j ≠ c → zz_sw H a c j = H j := fun j q1 q2 => zz_sw_o H q1 q2
            have s4 : ∀ e, zz_co (zz_sw H a c) m e ↔ zz_co H m e := fun e => zz_sw_co h1 hcm
            generalize zz_sw H a c = H2 at *
            have hb2 : ∀ k, k < m → H2 k < 2 ^ 31 := by
              intro j hj
              by_cases q1 : j = a
              · rw [q1, s1]; exact hc31
              · by_cases q2 : j = c
                · rw [q2, s2, h2]; exact hx
                · rw [s3 j q1 q2]; exact h3 j hj
            have hr2 : ∀ k, k < m → k ≠ c → upd row a (nI (H c)) k = nI (H2 k) := by
              intro j hj hne
              rw [zz_upd]
              by_cases q1 : j = a
              · rw [if_pos q1, q1, s1]
              · rw [if_neg q1, s3 j q1 hne]; exact h4 j hj q1
            obtain ⟨c', d0, d1, d2, d3⟩ := zc_lesser (m := m) (a := c) (row := upd row a (nI (H c))) (H := H2) (by omega) (by omega) hb2 hr2
            rw [d0, zz_b]
            refine ih (c, c', H2, upd row a (nI (H c))) ⟨hcm, by show H2 c = h m; rw [s2, h2], hb2, hr2, fun i i0 hi hne => ?_, fun i i0 hi hip hc0 => ?_, fun e => ?_, d1, d2, d3⟩ (by show m - c < m - a; omega)
            · show H2 ((i - 1) / 2) ≤ H2 i
              have hne : (i - 1) / 2 ≠ c := hne
              by_cases q1 : i = a
              · rw [q1, s1, s3 _ (by omega) (by omega)]
                exact h6 c (by omega) hcm hcp (by omega)
              · by_cases q2 : i = c
                · rw [q2, hcp, s1, s2, h2]
                  omega
                · rw [s3 i q1 q2]
                  by_cases q3 : (i - 1) / 2 = a
                  · rw [q3, s1]
                    exact h10 hcm i (by omega) hi
                  · rw [s3 _ q3 hne]
                    exact h5 i i0 hi q3
            · show H2 ((c - 1) / 2) ≤ H2 i
              have hip : (i - 1) / 2 = c := hip
              rw [hcp, s1, s3 i (by omega) (by omega)]
              have := h5 i i0 hi (by omega)
              rw [hip] at this
              exact this
            · show zz_co H2 m e ↔ _
              rw [s4, h7]
      · show zz_u h 0 (h m) k < 2 ^ 31
        rw [zz_uv]
        split
        · exact hx
        · exact hb k (by omega)
      · show hp k = nI (zz_u h 0 (h m) k)
        have hne : k ≠ 0 := hne
        rw [zz_un _ _ hne]
        exact hr k (by omega)
      · show zz_u h 0 (h m) ((i - 1) / 2) ≤ zz_u h 0 (h m) i
        have hne : (i - 1) / 2 ≠ 0 := hne
        rw [zz_un _ _ hne, zz_un _ _ (by omega)]
        exact ho i i0 (by omega)
    obtain ⟨a, hp', H, h1, h2, h3, h4, h5, h6⟩ := hL
    refine ⟨upd hp' a (nI (h m)), H, ?_, fun k hk => ?_, h5, fun e he => ?_, fun e ⟨k, k1, k2⟩ hne => ?_⟩
    · have hc0' : f_X11_lesserChild hp (nI m) 0 = some (nI c0) := hc0
      rw [f_X11_popEntry, nI_pred, zz_g (by omega) (by decide), hc0', zz_b, nI_clamp (by omega), hr m (by omega)]
      show (f_X11_popEntry_L36 (nI m) (nI (h m)) K (nI 0) (nI c0) hp).bind _ = _
      rw [h1, zz_b]
      show mm_g (mm_ck (nI a) 325) (some (hp 0, upd hp' (nI a).toNatClampNeg (nI (h m)), nI m)) = _
      rw [zz_g (by omega) (by decide), nI_clamp (by omega), hr 0 (by omega)]
    · rw [zz_upd]
      by_cases e : k = a
      · rw [if_pos e, e, h3]
      · rw [if_neg e]; exact h4 k hk e
    · obtain ⟨k, k1, k2⟩ := (h6 e).mp he
      by_cases q : k = 0
      · rw [q, zz_us] at k2
        exact ⟨m, by omega, k2⟩
      · rw [zz_un _ _ q] at k2
        exact ⟨k, by omega, k2⟩
    · refine (h6 e).mpr ?_
      by_cases q : k = m
      · exact ⟨0, by omega, by rw [zz_us, ← q]; exact k2⟩
      · have : k ≠ 0 := by
          intro q2
          rw [q2] at k2
          exact hne k2.symm
        exact ⟨k, by omega, by rw [zz_un _ _ this]; exact k2⟩
end ZHP
