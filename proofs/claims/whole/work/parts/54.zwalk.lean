/-- walks over the cells: o says which cells are open, w what a move to a cell costs -/
def zz_wk (o : Nat → Bool) (w : Nat → Nat) (s : Nat) : Nat → Nat → Nat → Prop
  | 0, d, c => d = 0 ∧ c = s
  | n + 1, d, c => ∃ c' d' m, c' < 81 ∧ m < 4 ∧ zz_wk o w s n d' c' ∧ zz_nb c' m = some c ∧ o c = true ∧ d = d' + w c
def zz_ds (o : Nat → Bool) (w : Nat → Nat) (s c d : Nat) : Prop := (∃ n, zz_wk o w s n d c) ∧ ∀ n d', zz_wk o w s n d' c → d ≤ d'
/-- a row that holds the least costs, F where there is no way -/
def zz_is (o : Nat → Bool) (w : Nat → Nat) (s F : Nat) (f : Nat → Int32) : Prop := ∀ c, c < 81 → (∃ d, d ≤ 200 ∧ f c = nI d ∧ zz_ds o w s c d) ∨ (f c = nI F ∧ ∀ n d, ¬ zz_wk o w s n d c)
section ZW
variable {o : Nat → Bool} {w : Nat → Nat} {s F : Nat}
theorem zz_nb_sym : ∀ c, c < 81 → ∀ m, m < 4 → (match zz_nb c m with
    | some d => decide (zz_nb d (zz_opp m) = some c ∧ d < 81)
    | none => true) = true := by decide +kernel
theorem zz_nb_s {c m d : Nat} (hc : c < 81) (hm : m < 4) (h : zz_nb c m = some d) : zz_nb d (zz_opp m) = some c ∧ d < 81 := by
  have := zz_nb_sym c hc m hm
  rw [h] at this
  exact of_decide_eq_true this
theorem zz_wk_lt (hs : s < 81) : ∀ {n d c : Nat}, zz_wk o w s n d c → c < 81
  | 0, _, _, h => by rw [h.2]; exact hs
  | n + 1, _, _, h => by
    obtain ⟨c', d', m, h1, h2, h3, h4, _⟩ := h
    exact (zz_nb_s h1 h2 h4).2
theorem zz_wk_cat {x : Nat} : ∀ {n2 n1 d1 d2 c : Nat}, zz_wk o w s n1 d1 x → zz_wk o w x n2 d2 c → zz_wk o w s (n1 + n2) (d1 + d2) c
  | 0, n1, d1, d2, c, h1, h2 => by
    obtain ⟨e1, e2⟩ := h2
    subst e1
    subst e2
    exact h1
  | n2 + 1, n1, d1, d2, c, h1, h2 => by
    obtain ⟨c', d', m, g1, g2, g3, g4, g5, g6⟩ := h2
    exact ⟨c', d1 + d', m, g1, g2, zz_wk_cat h1 g3, g4, g5, by omega⟩
theorem zz_wk_cut (hs : s < 81) : ∀ {n2 n1 d c : Nat}, zz_wk o w s (n1 + n2) d c → ∃ x d1 d2, x < 81 ∧ zz_wk o w s n1 d1 x ∧ zz_wk o w x n2 d2 c ∧ d = d1 + d2
  | 0, n1, d, c, h => ⟨c, d, 0, zz_wk_lt hs h, h, ⟨rfl, rfl⟩, rfl⟩
  | n2 + 1, n1, d, c, h => by
    obtain ⟨c', d', m, g1, g2, g3, g4, g5, g6⟩ := h
    obtain ⟨x, d1, d2, hx, h1, h2, h3⟩ := zz_wk_cut hs (n2 := n2) (n1 := n1) g3
    exact ⟨x, d1, d2 + w c, hx, h1, ⟨c', d2, m, g1, g2, h2, g4, g5, rfl⟩, by omega⟩
theorem zz_least {P : Nat → Prop} : ∀ n, P n → ∃ k, P k ∧ ∀ j, P j → k ≤ j := by
  intro n
  induction n using Nat.strongRecOn with
  | ind n ih =>
    intro h
    by_cases e : ∃ j, j < n ∧ P j
    · obtain ⟨j, h1, h2⟩ := e
      exact ih j h1 h2
    · exact ⟨n, h, fun j hj => Nat.not_lt.mp (fun q => e ⟨j, q, hj⟩)⟩
theorem zz_ds_ex {n d c : Nat} (h : zz_wk o w s n d c) : ∃ d', zz_ds o w s c d' := by
  obtain ⟨k, h1, h2⟩ := zz_least (P := fun d => ∃ n, zz_wk o w s n d c) d ⟨n, h⟩
  exact ⟨k, h1, fun n d' h => h2 d' ⟨n, h⟩⟩
theorem zz_ds_u {c d d' : Nat} (h : zz_ds o w s c d) (h' : zz_ds o w s c d') : d = d' := by
  obtain ⟨⟨n, h1⟩, h2⟩ := h
  obtain ⟨⟨n', h1'⟩, h2'⟩ := h'
  have := h2 _ _ h1'
  have := h2' _ _ h1
  omega
/-- a best way of at most r steps leads there -/
def zz_A (o : Nat → Bool) (w : Nat → Nat) (s r c : Nat) : Prop := ∃ n d, n ≤ r ∧ zz_wk o w s n d c ∧ zz_ds o w s c d
noncomputable def zz_Ab (o : Nat → Bool) (w : Nat → Nat) (s r c : Nat) : Bool := @decide (zz_A o w s r c) (Classical.propDecidable _)
theorem zz_Ab_t {r c : Nat} : zz_Ab o w s r c = true ↔ zz_A o w s r c := by
  unfold zz_Ab
  exact @decide_eq_true_iff _ (Classical.propDecidable _)
theorem zz_sm_p {p q : Nat → Bool} {k : Nat} : ∀ {n : Nat}, (∀ j, j < n → p j = true → q j = true) → k < n → p k = false → q k = true → zz_sm (fun j => if p j = true then 1 else 0) n + 1 ≤ zz_sm (fun j => if q j = true then 1 else 0) n
  | 0, _, h, _, _ => absurd h (Nat.not_lt_zero k)
  | n + 1, h, hk, h1, h2 => by
    unfold zz_sm
    by_cases e : k = n
    · subst e
      have := zz_sm_le (f := fun j => if p j = true then 1 else 0) (g := fun j => if q j = true then 1 else 0) (n := k) (fun j hj => by
        show (if p j = true then 1 else 0) ≤ (if q j = true then 1 else 0)
        by_cases g : p j = true
        · rw [if_pos g, if_pos (h j (by omega) g)]
          exact Nat.le_refl _
        · rw [if_neg g]
          exact Nat.zero_le _)
      show zz_sm _ k + (if p k = true then 1 else 0) + 1 ≤ zz_sm _ k + (if q k = true then 1 else 0)
      rw [h1, h2, if_neg (by decide), if_pos (by first | rfl | decide)]
      omega
    · have := zz_sm_p (p := p) (q := q) (n := n) (k := k) (fun j hj => h j (by omega)) (by omega) h1 h2
      have h9 : (if p n = true then 1 else 0) ≤ (if q n = true then 1 else 0) := by
        by_cases g : p n = true
        · rw [if_pos g, if_pos (h n (by omega) g)]
          exact Nat.le_refl _
        · rw [if_neg g]
          exact Nat.zero_le _
      show zz_sm _ n + (if p n = true then 1 else 0) + 1 ≤ zz_sm _ n + (if q n = true then 1 else 0)
      omega
theorem zz_A_new (hs : s < 81) {r c : Nat} (hr : ∃ n d, zz_wk o w s n d c) (hn : ¬ zz_A o w s r c) : ∃ x, x < 81 ∧ ¬ zz_A o w s r x ∧ zz_A o w s (r + 1) x := by
  obtain ⟨n0, d0, h0⟩ := hr
  obtain ⟨d, hd⟩ := zz_ds_ex h0
  obtain ⟨n1, h1⟩ := hd.1
  obtain ⟨n, h2, h3⟩ := zz_least (P := fun n => zz_wk o w s n d c) n1 h1
  have hnr : r < n := Nat.not_le.mp (fun q => hn ⟨n, d, q, h2, hd⟩)
  obtain ⟨m, rfl⟩ : ∃ m, n = r + 1 + m := ⟨n - (r + 1), by omega⟩
  obtain ⟨x, d1, d2, hx, g1, g2, g3⟩ := zz_wk_cut hs h2
  have hbest : zz_ds o w s x d1 := by
    refine ⟨⟨_, g1⟩, fun k d' hk => ?_⟩
    have := hd.2 _ _ (zz_wk_cat hk g2)
    omega
  refine ⟨x, hx, ?_, ⟨r + 1, d1, Nat.le_refl _, g1, hbest⟩⟩
  rintro ⟨k, d', hk, hw, hd'⟩
  have e := zz_ds_u hd' hbest
  subst e
  have h4 := zz_wk_cat hw g2
  rw [← g3] at h4
  have := h3 _ h4
  omega
theorem zz_A_cnt (hs : s < 81) : ∀ r, (∀ c, c < 81 → (∃ n d, zz_wk o w s n d c) → zz_A o w s r c) ∨ r + 1 ≤ zz_sm (fun j => if zz_Ab o w s r j = true then 1 else 0) 81
  | 0 => by
    right
    have h0 : zz_A o w s 0 s := ⟨0, 0, Nat.le_refl _, ⟨rfl, rfl⟩, ⟨0, ⟨rfl, rfl⟩⟩, fun _ _ _ => Nat.zero_le _⟩
    have := zz_sm_i (f := fun j => if zz_Ab o w s 0 j = true then 1 else 0) (n := 81) hs
    have h9 : (if zz_Ab o w s 0 s = true then 1 else 0) ≤ zz_sm (fun j => if zz_Ab o w s 0 j = true then 1 else 0) 81 := this
    rw [if_pos (zz_Ab_t.mpr h0)] at h9
    exact h9
  | r + 1 => by
    have hmono : ∀ c, zz_A o w s r c → zz_A o w s (r + 1) c := fun c ⟨n, d, h1, h2⟩ => ⟨n, d, by omega, h2⟩
    rcases zz_A_cnt hs r with h | h
    · exact Or.inl (fun c hc hr => hmono c (h c hc hr))
    · by_cases e : ∀ c, c < 81 → (∃ n d, zz_wk o w s n d c) → zz_A o w s r c
      · exact Or.inl (fun c hc hr => hmono c (e c hc hr))
      · right
        have hex : ∃ c, c < 81 ∧ (∃ n d, zz_wk o w s n d c) ∧ ¬ zz_A o w s r c := by
          apply Classical.byContradiction
          intro q
          apply e
          intro c hc hr
          apply Classical.byContradiction
          intro q2
          exact q ⟨c, hc, hr, q2⟩
        obtain ⟨c, _, hr, hn⟩ := hex
        obtain ⟨x, hx, h1, h2⟩ := zz_A_new hs hr hn
        have := zz_sm_p (p := zz_Ab o w s r) (q := zz_Ab o w s (r + 1)) (n := 81) (k := x) (fun j _ hj => zz_Ab_t.mpr (hmono j (zz_Ab_t.mp hj))) hx (by
          cases g : zz_Ab o w s r x with
          | false => rfl
          | true => exact absurd (zz_Ab_t.mp g) h1) (zz_Ab_t.mpr h2)
        omega
theorem zz_hop (hs : s < 81) {c : Nat} (hc : c < 81) (hr : ∃ n d, zz_wk o w s n d c) : zz_A o w s 81 c := by
  rcases zz_A_cnt (o := o) (w := w) hs 81 with h | h
  · exact h c hc hr
  · have := zz_sm_b (f := fun j => if zz_Ab o w s 81 j = true then 1 else 0) (m := 1) (n := 81) (fun j _ => by
      show (if zz_Ab o w s 81 j = true then 1 else 0) ≤ 1
      split <;> omega)
    omega
theorem zz_wk_2 (hw : ∀ c, c < 81 → w c ≤ 2) (hs : s < 81) : ∀ {n d c : Nat}, zz_wk o w s n d c → d ≤ 2 * n
  | 0, _, _, h => by rw [h.1]; exact Nat.le_refl _
  | n + 1, d, c, h => by
    have hc := zz_wk_lt hs h
    obtain ⟨c', d', m, h1, h2, h3, h4, h5, h6⟩ := h
    have := zz_wk_2 hw hs h3
    have := hw c hc
    omega
theorem zz_ds_le (hw : ∀ c, c < 81 → w c ≤ 2) (hs : s < 81) {c d : Nat} (h : zz_ds o w s c d) : d ≤ 162 := by
  obtain ⟨⟨n, h1⟩, h2⟩ := h
  obtain ⟨k, d', hk, hk2, hk3⟩ := zz_hop hs (zz_wk_lt hs h1) ⟨n, d, h1⟩
  have := zz_wk_2 hw hs hk2
  have := h2 _ _ hk2
  omega
/-- sound: what is not F is the cost of a way -/
def zz_so (o : Nat → Bool) (w : Nat → Nat) (s F : Nat) (g : Nat → Nat) : Prop := ∀ c, c < 81 → g c ≤ F ∧ (g c = F ∨ ∃ n, zz_wk o w s n (g c) c)
/-- closed: no move betters anything -/
def zz_cl (o : Nat → Bool) (w : Nat → Nat) (g : Nat → Nat) : Prop := ∀ c' m c, c' < 81 → m < 4 → zz_nb c' m = some c → o c = true → g c ≤ g c' + w c
theorem zz_is_of (hw : ∀ c, c < 81 → w c ≤ 2) (hs : s < 81) (hF : 200 < F) {g : Nat → Nat} {f : Nat → Int32} (hf : ∀ c, c < 81 → f c = nI (g c)) (h1 : zz_so o w s F g) (h2 : ∀ n d c, n ≤ 81 → zz_wk o w s n d c → g c ≤ d) : zz_is o w s F f := by
  intro c hc
  obtain ⟨k1, k2⟩ := h1 c hc
  by_cases e : ∃ n d, zz_wk o w s n d c
  · obtain ⟨n, d, hn, hk, hd⟩ := zz_hop hs hc e
    have h5 := zz_ds_le hw hs hd
    have h6 := h2 n d c hn hk
    left
    rcases k2 with k2 | ⟨n', k2⟩
    · omega
    · have := hd.2 _ _ k2
      have e2 : g c = d := by omega
      exact ⟨d, by omega, by rw [hf c hc, e2], hd⟩
  · right
    refine ⟨?_, fun n d h => e ⟨n, d, h⟩⟩
    rcases k2 with k2 | ⟨n', k2⟩
    · rw [hf c hc, k2]
    · exact absurd ⟨n', _, k2⟩ e
theorem zz_cl_wk (hs : s < 81) {g : Nat → Nat} (h0 : g s = 0) (h : zz_cl o w g) : ∀ n d c, zz_wk o w s n d c → g c ≤ d
  | 0, d, c, hk => by
    rw [hk.2, h0]
    exact Nat.zero_le _
  | n + 1, d, c, hk => by
    obtain ⟨c', d', m, h1, h2, h3, h4, h5, h6⟩ := hk
    have := zz_cl_wk hs h0 h n d' c' h3
    have := h c' m c h1 h2 h4 h5
    omega
/-- two such rows tell the same -/
theorem zz_is_eq {F' : Nat} {f f' : Nat → Int32} (h : zz_is o w s F f) (h' : zz_is o w s F' f') {c : Nat} (hc : c < 81) : (∃ d, d ≤ 200 ∧ f c = nI d ∧ f' c = nI d ∧ zz_ds o w s c d) ∨ (f c = nI F ∧ f' c = nI F' ∧ ∀ n d, ¬ zz_wk o w s n d c) := by
  rcases h c hc with ⟨d, h1, h2, h3⟩ | ⟨h1, h2⟩
  · rcases h' c hc with ⟨d', g1, g2, g3⟩ | ⟨g1, g2⟩
    · have e := zz_ds_u h3 g3
      subst e
      exact Or.inl ⟨d, h1, h2, g2, h3⟩
    · obtain ⟨n, h4⟩ := h3.1
      exact absurd h4 (g2 _ _)
  · rcases h' c hc with ⟨d', g1, g2, g3⟩ | ⟨g1, g2⟩
    · obtain ⟨n, h4⟩ := g3.1
      exact absurd h4 (h2 _ _)
    · exact Or.inr ⟨h1, g1, h2⟩
/-- ways back -/
theorem zz_wk_1 {c : Nat} (hc : c < 81) {m d : Nat} (hm : m < 4) (h : zz_nb c m = some d) (ho : o d = true) : zz_wk o w c 1 (w d) d := ⟨c, 0, m, hc, hm, ⟨rfl, rfl⟩, h, ho, by omega⟩
theorem zz_wk_rev (hs : s < 81) (hso : o s = true) (hw : ∀ c, w c = 1) : ∀ {n d c : Nat}, zz_wk o w s n d c → zz_wk o w c n d s ∧ o c = true
  | 0, d, c, h => by
    obtain ⟨e1, e2⟩ := h
    subst e1
    subst e2
    exact ⟨⟨rfl, rfl⟩, hso⟩
  | n + 1, d, c, h => by
    obtain ⟨c', d', m, h1, h2, h3, h4, h5, h6⟩ := h
    obtain ⟨g1, g2⟩ := zz_wk_rev hs hso hw h3
    obtain ⟨e1, e2⟩ := zz_nb_s h1 h2 h4
    have := zz_wk_cat (zz_wk_1 (w := w) e2 (zz_opp_lt m h2) e1 g2) g1
    rw [hw, Nat.add_comm 1 n, Nat.add_comm 1 d'] at this
    rw [hw] at h6
    rw [h6]
    exact ⟨this, h5⟩
end ZW
