-- sets of landings
def zz_bt (s i : Nat) : Bool := decide (s / 2 ^ i % 2 = 1)
def zz_rm (s a : Nat) : Nat := if s / 2 ^ a % 2 = 1 then s - 2 ^ a else s
def zz_rs (s a b : Nat) : Nat := zz_rm (zz_rm s a) b
def zz_fo (s : Nat) : Nat := (zz_fi (zz_bt s) 7).getD 7
def zz_pop (s : Nat) : Nat := s % 2 + s / 2 % 2 + s / 4 % 2 + s / 8 % 2 + s / 16 % 2 + s / 32 % 2 + s / 64 % 2 + s / 128 % 2
theorem zc_holds : ∀ s, s < 256 → ∀ i, i < 8 → f_X7_holds (nI s) (nI i) = some (zz_B (zz_bt s i)) := by decide +kernel
theorem zm_bit : ∀ s, s < 256 → ∀ i, i < 8 → (nI s >>> (nI i &&& 31)) &&& 1 = zz_B (zz_bt s i) := by decide +kernel
theorem zc_allOf : ∀ n, n < 9 → f_X7_allOf (nI n) = some (nI (2 ^ n - 1)) := by decide +kernel
theorem zm_shl : ∀ n, n < 9 → (1 : Int32) <<< (nI n &&& 31) = nI (2 ^ n) := by decide +kernel
theorem zz_andn : ∀ s, s < 256 → ∀ a, a < 8 → (nI s) &&& (((1 : Int32) <<< (nI a &&& 31)) ^^^ (-1)) = nI (zz_rm s a) := by decide +kernel
theorem zz_rm_lt {s a : Nat} : zz_rm s a ≤ s := by
  unfold zz_rm
  split
  · exact Nat.sub_le _ _
  · exact Nat.le_refl _
theorem zz_without {s a b : Nat} (hs : s < 256) (ha : a < 8) (hb : b < 8) : ((nI s) &&& (((1 : Int32) <<< (nI a &&& 31)) ^^^ (-1))) &&& (((1 : Int32) <<< (nI b &&& 31)) ^^^ (-1)) = nI (zz_rs s a b) := by
  have := zz_rm_lt (s := s) (a := a)
  rw [zz_andn s hs a ha, zz_andn _ (by omega) b hb]
  rfl
theorem zc_without {s a b : Nat} (hs : s < 256) (ha : a < 8) (hb : b < 8) : f_X7_without (nI s) (nI a) (nI b) = some (nI (zz_rs s a b)) := by
  rw [f_X7_without, zz_without hs ha hb]
theorem zz_sets1 : ∀ s, s < 256 → s ≠ 0 → zz_fi (zz_bt s) 8 = some (zz_fo s) ∧ zz_fo s < 8 ∧ zz_bt s (zz_fo s) = true ∧ (zz_pop s % 2 = 0 → zz_an (fun j => decide (zz_fo s < j) && zz_bt s j) 8 = true) := by decide +kernel
theorem zz_sets2 : ∀ s, s < 256 → ∀ j, j < 8 → zz_bt s j = true → zz_fo s < j → zz_rs s (zz_fo s) j < s ∧ zz_pop (zz_rs s (zz_fo s) j) + 2 = zz_pop s := by decide +kernel
theorem zz_sets3 : ∀ s, s < 256 → ∀ a, a < 8 → ∀ l, l < 8 → l ≠ a → zz_bt (zz_rm s a) l = zz_bt s l := by decide +kernel
theorem zz_sets4 : ∀ n, n < 9 → ∀ s, s < 2 ^ n → ∀ j, j < 8 → zz_bt s j = true → j < n := by decide +kernel
theorem zz_sets5 : ∀ n, n < 9 → zz_pop (2 ^ n - 1) = n ∧ 2 ^ n ≤ 256 ∧ 0 < 2 ^ n := by decide +kernel
theorem zz_sets6 : ∀ n, n < 9 → ∀ l, l < n → zz_bt (2 ^ n - 1) l = true := by decide +kernel
theorem zz_sets7 : ∀ s, s < 256 → zz_pop s ≤ 8 ∧ (zz_pop s = 0 → s = 0) := by decide +kernel
theorem zz_sets8 : ∀ l, l < 8 → zz_bt 0 l = false := by decide +kernel
/-- the least of c over a .. a + r - 1 where P holds, F if that is less -/
def zz_mm (P : Nat → Bool) (c : Nat → Nat) (F a : Nat) : Nat → Nat
  | 0 => F
  | r + 1 => if P (a + r) = true then (if c (a + r) < zz_mm P c F a r then c (a + r) else zz_mm P c F a r) else zz_mm P c F a r
section ZMM
variable {P : Nat → Bool} {c c' : Nat → Nat} {F F' a : Nat}
theorem zz_mm_big : ∀ r, (∀ j, a ≤ j → j < a + r → P j = true → F ≤ c j) → zz_mm P c F a r = F
  | 0, _ => rfl
  | r + 1, h => by
    have ih := zz_mm_big r (fun j h1 h2 => h j h1 (by omega))
    unfold zz_mm
    rw [ih]
    by_cases e : P (a + r) = true
    · have := h (a + r) (by omega) (by omega) e
      rw [if_pos e, if_neg (by omega)]
    · rw [if_neg e]
theorem zz_mm_c : ∀ r, (∀ j, a ≤ j → j < a + r → P j = true → c j = c' j) → zz_mm P c F a r = zz_mm P c' F a r
  | 0, _ => rfl
  | r + 1, h => by
    have ih := zz_mm_c r (fun j h1 h2 => h j h1 (by omega))
    unfold zz_mm
    rw [ih]
    by_cases e : P (a + r) = true
    · rw [if_pos e, if_pos e, h (a + r) (by omega) (by omega) e]
    · rw [if_neg e, if_neg e]
theorem zz_mm_F : ∀ r, (∀ j, a ≤ j → j < a + r → P j = true → c j < F ∧ c j < F') → ((∀ j, a ≤ j → j < a + r → P j = false) ∧ zz_mm P c F a r = F ∧ zz_mm P c F' a r = F') ∨ (zz_mm P c F a r = zz_mm P c F' a r ∧ (∃ j, a ≤ j ∧ j < a + r ∧ P j = true ∧ zz_mm P c F a r = c j) ∧ ∀ j, a ≤ j → j < a + r → P j = true → zz_mm P c F a r ≤ c j)
  | 0, _ => Or.inl ⟨fun j h1 h2 => by omega, rfl, rfl⟩
  | r + 1, h => by
    have ih := zz_mm_F r (fun j h1 h2 => h j h1 (by omega))
    unfold zz_mm
    by_cases e : P (a + r) = true
    · have hc := h (a + r) (by omega) (by omega) e
      rw [if_pos e, if_pos e]
      right
      rcases ih with ⟨i1, i2, i3⟩ | ⟨i1, ⟨j0, i2, i3, i4, i5⟩, i6⟩
      · rw [i2, i3, if_pos hc.1, if_pos hc.2]
        refine ⟨rfl, ⟨a + r, by omega, by omega, e, rfl⟩, fun j h1 h2 hp => ?_⟩
        by_cases q : j = a + r
        · rw [q]; exact Nat.le_refl _
        · rw [i1 j h1 (by omega)] at hp
          cases hp
      · rw [← i1]
        by_cases g : c (a + r) < zz_mm P c F a r
        · rw [if_pos g]
          refine ⟨rfl, ⟨a + r, by omega, by omega, e, rfl⟩, fun j h1 h2 hp => ?_⟩
          by_cases q : j = a + r
          · rw [q]; exact Nat.le_refl _
          · have := i6 j h1 (by omega) hp
            omega
        · rw [if_neg g]
          refine ⟨rfl, ⟨j0, i2, by omega, i4, i5⟩, fun j h1 h2 hp => ?_⟩
          by_cases q : j = a + r
          · rw [q]; omega
          · exact i6 j h1 (by omega) hp
    · rw [if_neg e, if_neg e]
      rcases ih with ⟨i1, i2, i3⟩ | ⟨i1, ⟨j0, i2, i3, i4, i5⟩, i6⟩
      · refine Or.inl ⟨fun j h1 h2 => ?_, i2, i3⟩
        by_cases q : j = a + r
        · rw [q]; exact Bool.eq_false_iff.mpr e
        · exact i1 j h1 (by omega)
      · refine Or.inr ⟨i1, ⟨j0, i2, by omega, i4, i5⟩, fun j h1 h2 hp => ?_⟩
        by_cases q : j = a + r
        · rw [q] at hp; exact absurd hp e
        · exact i6 j h1 (by omega) hp
theorem zz_mm_x {r : Nat} : ∀ t, (∀ j, a + r ≤ j → j < a + r + t → P j = false) → zz_mm P c F a (r + t) = zz_mm P c F a r
  | 0, _ => rfl
  | t + 1, h => by
    have ih := zz_mm_x t (fun j h1 h2 => h j h1 (by omega))
    show (if P (a + (r + t)) = true then _ else zz_mm P c F a (r + t)) = _
    rw [if_neg (by rw [h (a + (r + t)) (by omega) (by omega)]; decide), ih]
end ZMM
/-- the least cost of a set, its pairs laid one after another -/
def zz_lv (pc : Nat → Nat → Nat) : Nat → Nat → Nat
  | 0, _ => 0
  | k + 1, s => if s = 0 then 0 else zz_mm (zz_bt s) (fun j => pc (zz_fo s) j + zz_lv pc k (zz_rs s (zz_fo s) j)) 1000000 (zz_fo s + 1) (8 - (zz_fo s + 1))
section ZLV
variable {pc : Nat → Nat → Nat}
theorem zz_lv_0 (k : Nat) : zz_lv pc k 0 = 0 := by
  cases k with
  | zero => rfl
  | succ k => exact if_pos rfl
theorem zz_part {s : Nat} (hs : s < 256) (h0 : s ≠ 0) (he : zz_pop s % 2 = 0) : ∃ j, zz_fo s + 1 ≤ j ∧ j < 8 ∧ zz_bt s j = true := by
  obtain ⟨j, h1, h2⟩ := zz_an_t.mp ((zz_sets1 s hs h0).2.2.2 he)
  have h3 : (decide (zz_fo s < j) && zz_bt s j) = true := h2
  rw [Bool.and_eq_true] at h3
  have := of_decide_eq_true h3.1
  exact ⟨j, by omega, h1, h3.2⟩
theorem zz_lv_s (hpc : ∀ a b, a < 8 → b < 8 → pc a b < 20) : ∀ k s, k ≤ 4 → s < 256 → zz_pop s % 2 = 0 → zz_pop s ≤ 2 * k → zz_lv pc k s ≤ 20 * k ∧ ∀ k', k ≤ k' → zz_lv pc k' s = zz_lv pc k s
  | 0, s, _, hs, he, hk => by
    have h0 := (zz_sets7 s hs).2 (by omega)
    subst h0
    exact ⟨Nat.le_refl _, fun k' _ => by rw [zz_lv_0, zz_lv_0]⟩
  | k + 1, s, hk4, hs, he, hk => by
    by_cases h0 : s = 0
    · subst h0
      exact ⟨by rw [zz_lv_0]; exact Nat.zero_le _, fun k' _ => by rw [zz_lv_0, zz_lv_0]⟩
    · have hf := (zz_sets1 s hs h0).2.1
      have hrest : ∀ j, zz_fo s + 1 ≤ j → j < zz_fo s + 1 + (8 - (zz_fo s + 1)) → zz_bt s j = true → zz_lv pc k (zz_rs s (zz_fo s) j) ≤ 20 * k ∧ (∀ k', k ≤ k' → zz_lv pc k' (zz_rs s (zz_fo s) j) = zz_lv pc k (zz_rs s (zz_fo s) j)) ∧ pc (zz_fo s) j < 20 := by
        intro j h1 h2 hb
        obtain ⟨r1, r2⟩ := zz_sets2 s hs j (by omega) hb (by omega)
        obtain ⟨i1, i2⟩ := zz_lv_s hpc k (zz_rs s (zz_fo s) j) (by omega) (by omega) (by omega) (by omega)
        exact ⟨i1, i2, hpc _ _ hf (by omega)⟩
      refine ⟨?_, fun k' hk' => ?_⟩
      · rw [zz_lv, if_neg h0]
        obtain ⟨j, j1, j2, j3⟩ := zz_part hs h0 he
        rcases zz_mm_F (P := zz_bt s) (c := fun j => pc (zz_fo s) j + zz_lv pc k (zz_rs s (zz_fo s) j)) (F := 1000000) (F' := 1000000) (a := zz_fo s + 1) (8 - (zz_fo s + 1)) (fun j h1 h2 h3 => by
          have := hrest j h1 h2 h3
          show pc (zz_fo s) j + zz_lv pc k (zz_rs s (zz_fo s) j) < 1000000 ∧ pc (zz_fo s) j + zz_lv pc k (zz_rs s (zz_fo s) j) < 1000000
          omega) with ⟨q1, _⟩ | ⟨_, _, q3⟩
        · rw [q1 j j1 (by omega)] at j3
          cases j3
        · have h5 := q3 j j1 (by omega) j3
          have h6 := hrest j j1 (by omega) j3
          have h5 : _ ≤ pc (zz_fo s) j + zz_lv pc k (zz_rs s (zz_fo s) j) := h5
          omega
      · obtain ⟨m, rfl⟩ : ∃ m, k' = m + 1 := ⟨k' - 1, by omega⟩
        rw [zz_lv, zz_lv, if_neg h0, if_neg h0]
        refine zz_mm_c _ (fun j h1 h2 h3 => ?_)
        show pc (zz_fo s) j + zz_lv pc m (zz_rs s (zz_fo s) j) = pc (zz_fo s) j + zz_lv pc k (zz_rs s (zz_fo s) j)
        rw [(hrest j h1 h2 h3).2.1 m (by omega)]
/-- the two tables: those of odd sets do not matter -/
def zz_tb (pc : Nat → Nat → Nat) (F s : Nat) : Nat := if zz_pop s % 2 = 0 then zz_lv pc 4 s else F
theorem zz_tb_e {F s : Nat} (he : zz_pop s % 2 = 0) : zz_tb pc F s = zz_lv pc 4 s := if_pos he
theorem zz_tb_step (hpc : ∀ a b, a < 8 → b < 8 → pc a b < 20) {F n s : Nat} (hF : 200 < F) (hF2 : F ≤ 1000000) (hn : n < 9) (hs : s < 2 ^ n) (h0 : s ≠ 0) : zz_mm (zz_bt s) (fun j => pc (zz_fo s) j + zz_tb pc F (zz_rs s (zz_fo s) j)) F (zz_fo s + 1) (n - (zz_fo s + 1)) = zz_tb pc F s := by
  have h256 := (zz_sets5 n hn).2.1
  have hs2 : s < 256 := by omega
  obtain ⟨_, hf, hfb, _⟩ := zz_sets1 s hs2 h0
  have hfn := zz_sets4 n hn s hs _ hf hfb
  have hx : zz_mm (zz_bt s) (fun j => pc (zz_fo s) j + zz_tb pc F (zz_rs s (zz_fo s) j)) F (zz_fo s + 1) (n - (zz_fo s + 1)) = zz_mm (zz_bt s) (fun j => pc (zz_fo s) j + zz_tb pc F (zz_rs s (zz_fo s) j)) F (zz_fo s + 1) (8 - (zz_fo s + 1)) := by
    rw [show 8 - (zz_fo s + 1) = (n - (zz_fo s + 1)) + (8 - n) by omega]
    refine (zz_mm_x (8 - n) (fun j h1 h2 => ?_)).symm
    cases q : zz_bt s j with
    | false => rfl
    | true =>
      have := zz_sets4 n hn s hs j (by omega) q
      omega
  rw [hx]
  by_cases he : zz_pop s % 2 = 0
  · rw [zz_tb_e he]
    have hl : zz_lv pc 4 s = zz_mm (zz_bt s) (fun j => pc (zz_fo s) j + zz_lv pc 3 (zz_rs s (zz_fo s) j)) 1000000 (zz_fo s + 1) (8 - (zz_fo s + 1)) := if_neg h0
    have hpop := (zz_sets7 s hs2).1
    have hrest : ∀ j, zz_fo s + 1 ≤ j → j < zz_fo s + 1 + (8 - (zz_fo s + 1)) → zz_bt s j = true → zz_tb pc F (zz_rs s (zz_fo s) j) = zz_lv pc 3 (zz_rs s (zz_fo s) j) ∧ pc (zz_fo s) j + zz_lv pc 3 (zz_rs s (zz_fo s) j) ≤ 80 := by
      intro j h1 h2 hb
      obtain ⟨r1, r2⟩ := zz_sets2 s hs2 j (by omega) hb (by omega)
      obtain ⟨i1, i2⟩ := zz_lv_s hpc 3 (zz_rs s (zz_fo s) j) (by decide) (by omega) (by omega) (by omega)
      have := hpc (zz_fo s) j hf (by omega)
      refine ⟨by rw [zz_tb_e (by omega), i2 4 (by decide)], by omega⟩
    rw [hl, zz_mm_c (c' := fun j => pc (zz_fo s) j + zz_lv pc 3 (zz_rs s (zz_fo s) j)) _ (fun j h1 h2 h3 => by
      show pc (zz_fo s) j + zz_tb pc F (zz_rs s (zz_fo s) j) = pc (zz_fo s) j + zz_lv pc 3 (zz_rs s (zz_fo s) j)
      rw [(hrest j h1 h2 h3).1])]
    obtain ⟨j, j1, j2, j3⟩ := zz_part hs2 h0 he
    rcases zz_mm_F (P := zz_bt s) (c := fun j => pc (zz_fo s) j + zz_lv pc 3 (zz_rs s (zz_fo s) j)) (F := F) (F' := 1000000) (a := zz_fo s + 1) (8 - (zz_fo s + 1)) (fun j h1 h2 h3 => by
      have := (hrest j h1 h2 h3).2
      show pc (zz_fo s) j + zz_lv pc 3 (zz_rs s (zz_fo s) j) < F ∧ pc (zz_fo s) j + zz_lv pc 3 (zz_rs s (zz_fo s) j) < 1000000
      omega) with ⟨q1, _⟩ | ⟨q1, _⟩
    · rw [q1 j j1 (by omega)] at j3
      cases j3
    · exact q1
  · have ho : zz_tb pc F s = F := if_neg he
    rw [ho]
    refine zz_mm_big _ (fun j h1 h2 hb => ?_)
    obtain ⟨r1, r2⟩ := zz_sets2 s hs2 j (by omega) hb (by omega)
    show F ≤ pc (zz_fo s) j + zz_tb pc F (zz_rs s (zz_fo s) j)
    have : zz_tb pc F (zz_rs s (zz_fo s) j) = F := if_neg (by omega)
    omega
/-- there is a best partner, and where it is first -/
def zz_bp (pc : Nat → Nat → Nat) (s j : Nat) : Bool := decide (zz_fo s < j) && (zz_bt s j && decide (pc (zz_fo s) j + zz_lv pc 4 (zz_rs s (zz_fo s) j) = zz_lv pc 4 s))
theorem zz_bp_ex (hpc : ∀ a b, a < 8 → b < 8 → pc a b < 20) {s : Nat} (hs : s < 256) (h0 : s ≠ 0) (he : zz_pop s % 2 = 0) : ∃ j, zz_fi (zz_bp pc s) 8 = some j ∧ zz_fo s < j ∧ j < 8 ∧ zz_bt s j = true ∧ pc (zz_fo s) j + zz_lv pc 4 (zz_rs s (zz_fo s) j) = zz_lv pc 4 s := by
  have hf := (zz_sets1 s hs h0).2.1
  have hl : zz_lv pc 4 s = zz_mm (zz_bt s) (fun j => pc (zz_fo s) j + zz_lv pc 3 (zz_rs s (zz_fo s) j)) 1000000 (zz_fo s + 1) (8 - (zz_fo s + 1)) := if_neg h0
  have hpop := (zz_sets7 s hs).1
  have hrest : ∀ j, zz_fo s + 1 ≤ j → j < zz_fo s + 1 + (8 - (zz_fo s + 1)) → zz_bt s j = true → zz_lv pc 4 (zz_rs s (zz_fo s) j) = zz_lv pc 3 (zz_rs s (zz_fo s) j) ∧ pc (zz_fo s) j + zz_lv pc 3 (zz_rs s (zz_fo s) j) ≤ 80 := by
    intro j h1 h2 hb
    obtain ⟨r1, r2⟩ := zz_sets2 s hs j (by omega) hb (by omega)
    obtain ⟨i1, i2⟩ := zz_lv_s hpc 3 (zz_rs s (zz_fo s) j) (by decide) (by omega) (by omega) (by omega)
    have := hpc (zz_fo s) j hf (by omega)
    exact ⟨i2 4 (by decide), by omega⟩
  obtain ⟨j, j1, j2, j3⟩ := zz_part hs h0 he
  rcases zz_mm_F (P := zz_bt s) (c := fun j => pc (zz_fo s) j + zz_lv pc 3 (zz_rs s (zz_fo s) j)) (F := 1000000) (F' := 1000000) (a := zz_fo s + 1) (8 - (zz_fo s + 1)) (fun j h1 h2 h3 => by
    have := (hrest j h1 h2 h3).2
    show pc (zz_fo s) j + zz_lv pc 3 (zz_rs s (zz_fo s) j) < 1000000 ∧ pc (zz_fo s) j + zz_lv pc 3 (zz_rs s (zz_fo s) j) < 1000000
    omega) with ⟨q1, _⟩ | ⟨_, ⟨j0, q1, q2, q3, q4⟩, _⟩
  · rw [q1 j j1 (by omega)] at j3
    cases j3
  · rw [← hl] at q4
    have q4 : zz_lv pc 4 s = pc (zz_fo s) j0 + zz_lv pc 3 (zz_rs s (zz_fo s) j0) := q4
    have hb : zz_bp pc s j0 = true := by
      unfold zz_bp
      rw [q3, (hrest j0 q1 q2 q3).1, ← q4, decide_eq_true (show zz_fo s < j0 by omega), decide_eq_true rfl]
      rfl
    cases e : zz_fi (zz_bp pc s) 8 with
    | none =>
      rw [zz_fi_none e j0 (by omega)] at hb
      cases hb
    | some j' =>
      obtain ⟨k1, k2, _⟩ := zz_fi_some e
      unfold zz_bp at k2
      rw [Bool.and_eq_true, Bool.and_eq_true] at k2
      exact ⟨j', rfl, of_decide_eq_true k2.1, k1, k2.2.1, of_decide_eq_true k2.2.2⟩
end ZLV
