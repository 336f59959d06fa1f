-- the pairing on both sides
section ZPR
variable {S : Nat → Nat} {K n : Nat} {lc cs bs : Nat → Int32} {v : Nat → Int32}
def zz_pcs (S : Nat → Nat) (a b : Nat) : Nat := zz_pc (S (230 + a)) (S (230 + b))
/-- kept below 20 everywhere -/
def zz_pq (S : Nat → Nat) (n a b : Nat) : Nat := if a < n ∧ b < n then zz_pcs S a b else 0
theorem zz_pq_lt (h81 : ∀ l, l < n → S (230 + l) < 81) : ∀ a b, a < 8 → b < 8 → zz_pq S n a b < 20 := by
  intro a b _ _
  unfold zz_pq
  split
  · rename_i h
    exact zz_pc_lt (h81 a h.1) (h81 b h.2)
  · decide
theorem zz_pq_y {a b : Nat} (ha : a < n) (hb : b < n) : zz_pq S n a b = zz_pcs S a b := if_pos ⟨ha, hb⟩
theorem zc_pair (hn : n ≤ 8) (hl : ∀ l, l < n → lc l = nI (S (230 + l))) (h81 : ∀ l, l < n → S (230 + l) < 81) {a b : Nat} (ha : a < n) (hb : b < n) : f_X5_costOfPair lc (nI a) (nI b) = some (nI (zz_pq S n a b)) := by
  have h1 := h81 a ha
  have h2 := h81 b hb
  have h3 := zz_di_lt _ h1 _ h2
  have h4 := zz_di_lt _ h1 _ (zz_i_lt _ h2)
  rw [f_X5_costOfPair, zz_g (by omega) (by decide), zz_g (by omega) (by decide), nI_clamp (by omega), nI_clamp (by omega), hl a ha, hl b hb, zc_distance _ h1 _ h2, zz_b, zz_g (by omega) (by decide), zz_g (by omega) (by decide), zc_image _ h2, zz_b, zc_distance _ h1 _ (zz_i_lt _ h2), zz_b, zz_pq_y ha hb]
  unfold zz_pcs zz_pc
  by_cases e : zz_di (S (230 + a)) (zz_i (S (230 + b))) < zz_di (S (230 + a)) (S (230 + b))
  · rw [if_pos (nI_lt e (by omega)), if_pos e]
  · rw [if_neg (nI_nlt (by omega) (by omega)), if_neg e]
theorem zm_pair (hn : n ≤ 8) (hM : zz_Pm S v) (h81 : ∀ l, l < n → S (230 + l) < 81) {a b : Nat} (ha : a < n) (hb : b < n) : f_X13_pairs v (nI a) (nI b) = some (nI (zz_pq S n a b)) := by
  have h1 := h81 a ha
  have h2 := h81 b hb
  have h3 := zz_di_lt _ h1 _ h2
  have h4 := zz_di_lt _ h1 _ (zz_i_lt _ h2)
  rw [f_X13_pairs, zz_l230, nI_add, nI_add, zz_g (by omega) (by decide), zz_g (by omega) (by decide), nI_clamp (by omega), nI_clamp (by omega), hM _ (by omega), hM _ (by omega), zm_apart _ h1 _ h2, zz_b, zz_g (by omega) (by decide), zz_g (by omega) (by decide), zm_image _ h2, zz_b, zm_apart _ h1 _ (zz_i_lt _ h2), zz_b, zz_pq_y ha hb]
  unfold zz_pcs zz_pc
  by_cases e : zz_di (S (230 + a)) (zz_i (S (230 + b))) < zz_di (S (230 + a)) (S (230 + b))
  · rw [if_pos (nI_le (by omega) (by omega)), if_pos e]
  · rw [if_neg e]
    by_cases g : zz_di (S (230 + a)) (zz_i (S (230 + b))) ≤ zz_di (S (230 + a)) (S (230 + b))
    · rw [if_pos (nI_le g (by omega)), show zz_di (S (230 + a)) (zz_i (S (230 + b))) = zz_di (S (230 + a)) (S (230 + b)) by omega]
    · rw [if_neg (nI_ge (by omega) (by omega))]
theorem zc_fillC (hn : n ≤ 8) (hK : 100 ≤ K) (hl : ∀ l, l < n → lc l = nI (S (230 + l))) (h81 : ∀ l, l < n → S (230 + l) < 81) (cs : Nat → Int32) : ∃ c, f_X7_fillCosts K cs lc (nI n) = some c ∧ ∀ a b, a < n → b < n → c (a * 8 + b) = nI (zz_pq S n a b) := by
  have hI : ∀ a, a < n → ∀ r : Nat → Int32, ∃ c, f_X7_fillCosts_L12 lc (nI n) (nI a) K 0 r = some c ∧ (∀ b, b < n → c (a * 8 + b) = nI (zz_pq S n a b)) ∧ ∀ j, j < a * 8 → c j = r j := by
    intro a ha r
    refine zz_for0 (fun K i (q : Nat → Int32) => f_X7_fillCosts_L12 lc (nI n) (nI a) K (nI i) q) n (fun i q => (∀ b, b < i → q (a * 8 + b) = nI (zz_pq S n a b)) ∧ ∀ j, j < a * 8 → q j = r j) (fun z => ∃ c, z = some c ∧ (∀ b, b < n → c (a * 8 + b) = nI (zz_pq S n a b)) ∧ ∀ j, j < a * 8 → c j = r j) ?_ ?_ K r (by omega) ⟨fun b hb => by omega, fun _ _ => rfl⟩
    · intro k q h
      refine ⟨q, ?_, h⟩
      show f_X7_fillCosts_L12 lc (nI n) (nI a) (k + 1) (nI n) q = _
      rw [f_X7_fillCosts_L12, if_pos (nI_le (Nat.le_refl _) (by omega))]
    · intro k i q hi h ih
      show ∃ c, f_X7_fillCosts_L12 lc (nI n) (nI a) (k + 1) (nI i) q = some c ∧ _
      rw [f_X7_fillCosts_L12, if_neg (nI_ge hi (by omega)), zc_pair hn hl h81 ha hi, zz_b, zz_l8, pk_mul, nI_add, zz_g (by omega) (by decide), nI_clamp (by omega), nI_1]
      refine ih _ ⟨fun b hb => ?_, fun j hj => ?_⟩
      · rw [zz_upd]
        by_cases e : b = i
        · rw [if_pos (by omega), e]
        · rw [if_neg (by omega)]; exact h.1 b (by omega)
      · rw [zz_upd, if_neg (by omega)]; exact h.2 j hj
  have hL : ∃ c, f_X7_fillCosts_L2 K lc (nI n) K 0 cs = some c ∧ ∀ a b, a < n → b < n → c (a * 8 + b) = nI (zz_pq S n a b) := by
    refine zz_for0 (fun K' i (q : Nat → Int32) => f_X7_fillCosts_L2 K lc (nI n) K' (nI i) q) n (fun i q => ∀ a b, a < i → b < n → q (a * 8 + b) = nI (zz_pq S n a b)) (fun z => ∃ c, z = some c ∧ ∀ a b, a < n → b < n → c (a * 8 + b) = nI (zz_pq S n a b)) ?_ ?_ K cs (by omega) (fun a b ha => by omega)
    · intro k q h
      refine ⟨q, ?_, h⟩
      show f_X7_fillCosts_L2 K lc (nI n) (k + 1) (nI n) q = _
      rw [f_X7_fillCosts_L2, if_pos (nI_le (Nat.le_refl _) (by omega))]
    · intro k i q hi h ih
      obtain ⟨c, c1, c2, c3⟩ := hI i hi q
      show ∃ c, f_X7_fillCosts_L2 K lc (nI n) (k + 1) (nI i) q = some c ∧ _
      rw [f_X7_fillCosts_L2, if_neg (nI_ge hi (by omega)), c1, zz_b, nI_1]
      refine ih c (fun a b ha hb => ?_)
      by_cases e : a = i
      · rw [e]; exact c2 b hb
      · rw [c3 _ (by omega)]; exact h a b (by omega) hb
  obtain ⟨c, h1, h2⟩ := hL
  refine ⟨c, ?_, h2⟩
  rw [f_X7_fillCosts, h1]
  rfl
theorem zc_firstOf {s : Nat} (hs : s < 256) (hK : 100 ≤ K) : f_X7_firstOf K (nI s) = some (nI (zz_fo s)) := by
  refine zz_for0 (fun K i (_ : Unit) => f_X7_firstOf_L2 (nI s) K (nI i)) 7 (fun i _ => zz_fi (zz_bt s) i = none) (fun z => z = some (nI (zz_fo s))) ?_ ?_ K () (by omega) rfl
  · intro k _ h
    show f_X7_firstOf_L2 (nI s) (k + 1) (nI 7) = _
    rw [f_X7_firstOf_L2, if_pos (by decide)]
    unfold zz_fo
    rw [h]
    rfl
  · intro k i _ hi h ih
    show f_X7_firstOf_L2 (nI s) (k + 1) (nI i) = _
    rw [f_X7_firstOf_L2, zz_l7, if_neg (nI_ge hi (by decide)), zc_holds s hs i (by omega), zz_b, nI_1]
    cases e : zz_bt s i with
    | true =>
      rw [zz_Bt, if_neg (by decide)]
      unfold zz_fo
      rw [zz_fi_y h e hi]
      rfl
    | false =>
      rw [zz_Bf, if_pos rfl]
      exact ih () (zz_fi_n h e)
theorem zm_lowest {s : Nat} (hs : s < 256) (h0 : s ≠ 0) (hK : 100 ≤ K) : f_X13_lowest K (nI s) = some (nI (zz_fo s)) := by
  obtain ⟨hf, _⟩ := zz_sets1 s hs h0
  have hL : f_X13_lowest_L2 (nI s) K 0 = some (nI (zz_fo s)) := by
    refine zz_for0 (fun K i (_ : Unit) => f_X13_lowest_L2 (nI s) K (nI i)) 8 (fun i _ => zz_fi (zz_bt s) i = none) (fun z => z = some (nI (zz_fo s))) ?_ ?_ K () (by omega) rfl
    · intro k _ h
      rw [hf] at h
      cases h
    · intro k i _ hi h ih
      show f_X13_lowest_L2 (nI s) (k + 1) (nI i) = _
      rw [f_X13_lowest_L2, zm_bit s hs i hi, nI_1]
      cases e : zz_bt s i with
      | true =>
        rw [zz_Bt, if_neg (by decide)]
        have := zz_fi_y h e hi
        rw [hf] at this
        cases this
        rfl
      | false =>
        rw [zz_Bf, if_pos rfl]
        exact ih () (zz_fi_n h e)
  rw [f_X13_lowest, hL]
  rfl
theorem zz_rs_lt {s a b : Nat} (hs : s < 256) : zz_rs s a b < 256 := by
  have := zz_rm_lt (s := s) (a := a)
  have := zz_rm_lt (s := zz_rm s a) (a := b)
  show zz_rm (zz_rm s a) b < 256
  omega
theorem zc_choice {g : Nat → Nat} {s a b : Nat} (hs : s < 256) (ha : a < n) (hb : b < n) (hn : n ≤ 8) (hc : ∀ a b, a < n → b < n → cs (a * 8 + b) = nI (zz_pq S n a b)) (hg : bs (zz_rs s a b) = nI (g (zz_rs s a b))) : f_X7_costOfChoice cs bs (nI s) (nI a) (nI b) = some (nI (zz_pq S n a b + g (zz_rs s a b))) := by
  have := zz_rs_lt (a := a) (b := b) hs
  rw [f_X7_costOfChoice, zz_l8, pk_mul, nI_add, zz_g (by omega) (by decide), zc_without hs (by omega) (by omega), zz_b, zz_g this (by decide), nI_clamp (by omega), nI_clamp (by omega), hc a b ha hb, hg, nI_add]
theorem zz_mm_le {P : Nat → Bool} {c : Nat → Nat} {F a : Nat} : ∀ r, zz_mm P c F a r ≤ F
  | 0 => Nat.le_refl _
  | r + 1 => by
    have := zz_mm_le (P := P) (c := c) (F := F) (a := a) r
    unfold zz_mm
    split
    · split <;> omega
    · exact this
theorem zz_tb_le (h81 : ∀ l, l < n → S (230 + l) < 81) {F s : Nat} (hF : 200 < F) (hs : s < 256) : zz_tb (zz_pq S n) F s ≤ F := by
  unfold zz_tb
  split
  · rename_i he
    have := (zz_sets7 s hs).1
    have := (zz_lv_s (zz_pq_lt h81) 4 s (by decide) hs he (by omega)).1
    omega
  · exact Nat.le_refl _
theorem zc_table (hn : n ≤ 8) (hK : 1000 ≤ K) (h81 : ∀ l, l < n → S (230 + l) < 81) (hc : ∀ a b, a < n → b < n → cs (a * 8 + b) = nI (zz_pq S n a b)) (bs : Nat → Int32) : ∃ b, f_X7_fillTable K cs bs (nI n) = some b ∧ ∀ s, s < 2 ^ n → b s = nI (zz_tb (zz_pq S n) 1000000 s) := by
  obtain ⟨_, h256, hpos⟩ := zz_sets5 n (by omega)
  have hL : ∃ b, f_X7_fillTable_L9 K cs (nI n) K 1 (upd bs 0 0) = some b ∧ ∀ s, s < 2 ^ n → b s = nI (zz_tb (zz_pq S n) 1000000 s) := by
    refine zz_for (fun K' i (q : Nat → Int32) => f_X7_fillTable_L9 K cs (nI n) K' (nI i) q) (2 ^ n) (fun i q => 0 < i ∧ ∀ s, s < i → q s = nI (zz_tb (zz_pq S n) 1000000 s)) (fun z => ∃ b, z = some b ∧ ∀ s, s < 2 ^ n → b s = nI (zz_tb (zz_pq S n) 1000000 s)) ?_ ?_ (2 ^ n - 1) 1 K (upd bs 0 0) (by omega) (by omega) ⟨by decide, fun s hs => ?_⟩
    · intro k q h
      refine ⟨q, ?_, h.2⟩
      show f_X7_fillTable_L9 K cs (nI n) (k + 1) (nI (2 ^ n)) q = _
      rw [f_X7_fillTable_L9, zc_allOf n (by omega), zz_b, if_pos (nI_lt (by omega) (by omega))]
    · intro k s q hs h ih
      obtain ⟨hs0, h⟩ := h
      have hs2 : s < 256 := by omega
      obtain ⟨_, hf, hfb, _⟩ := zz_sets1 s hs2 (by omega)
      have hfn := zz_sets4 n (by omega) s hs _ hf hfb
      show ∃ b, f_X7_fillTable_L9 K cs (nI n) (k + 1) (nI s) q = some b ∧ _
      have hin : f_X7_fillTable_L31 cs q (nI n) (nI s) (nI (zz_fo s)) K (nI 1000000) (nI (zz_fo s + 1)) = some (nI (zz_tb (zz_pq S n) 1000000 s)) := by
        rw [← zz_tb_step (zz_pq_lt h81) (F := 1000000) (by decide) (by decide) (by omega) hs (by omega)]
        refine zz_for (fun K' i (x : Int32) => f_X7_fillTable_L31 cs q (nI n) (nI s) (nI (zz_fo s)) K' x (nI i)) n (fun i x => zz_fo s + 1 ≤ i ∧ x = nI (zz_mm (zz_bt s) (fun j => zz_pq S n (zz_fo s) j + zz_tb (zz_pq S n) 1000000 (zz_rs s (zz_fo s) j)) 1000000 (zz_fo s + 1) (i - (zz_fo s + 1)))) (fun z => z = some (nI (zz_mm (zz_bt s) (fun j => zz_pq S n (zz_fo s) j + zz_tb (zz_pq S n) 1000000 (zz_rs s (zz_fo s) j)) 1000000 (zz_fo s + 1) (n - (zz_fo s + 1))))) ?_ ?_ (n - (zz_fo s + 1)) (zz_fo s + 1) K (nI 1000000) (by omega) (by omega) ⟨Nat.le_refl _, by rw [Nat.sub_self]; rfl⟩
        · intro k x hx
          show f_X7_fillTable_L31 cs q (nI n) (nI s) (nI (zz_fo s)) (k + 1) x (nI n) = _
          rw [f_X7_fillTable_L31, if_pos (nI_le (Nat.le_refl _) (by omega)), hx.2]
        · intro k i x hi hx ih2
          obtain ⟨hx0, rfl⟩ := hx
          have hle := zz_mm_le (P := zz_bt s) (c := fun j => zz_pq S n (zz_fo s) j + zz_tb (zz_pq S n) 1000000 (zz_rs s (zz_fo s) j)) (F := 1000000) (a := zz_fo s + 1) (i - (zz_fo s + 1))
          show f_X7_fillTable_L31 cs q (nI n) (nI s) (nI (zz_fo s)) (k + 1) _ (nI i) = _
          rw [f_X7_fillTable_L31, if_neg (nI_ge hi (by omega)), zc_holds s hs2 i (by omega), zz_b, nI_1]
          have hstep : zz_mm (zz_bt s) (fun j => zz_pq S n (zz_fo s) j + zz_tb (zz_pq S n) 1000000 (zz_rs s (zz_fo s) j)) 1000000 (zz_fo s + 1) (i + 1 - (zz_fo s + 1)) = if zz_bt s i = true then (if zz_pq S n (zz_fo s) i + zz_tb (zz_pq S n) 1000000 (zz_rs s (zz_fo s) i) < zz_mm (zz_bt s) (fun j => zz_pq S n (zz_fo s) j + zz_tb (zz_pq S n) 1000000 (zz_rs s (zz_fo s) j)) 1000000 (zz_fo s + 1) (i - (zz_fo s + 1)) then zz_pq S n (zz_fo s) i + zz_tb (zz_pq S n) 1000000 (zz_rs s (zz_fo s) i) else zz_mm (zz_bt s) (fun j => zz_pq S n (zz_fo s) j + zz_tb (zz_pq S n) 1000000 (zz_rs s (zz_fo s) j)) 1000000 (zz_fo s + 1) (i - (zz_fo s + 1))) else zz_mm (zz_bt s) (fun j => zz_pq S n (zz_fo s) j + zz_tb (zz_pq S n) 1000000 (zz_rs s (zz_fo s) j)) 1000000 (zz_fo s + 1) (i - (zz_fo s + 1)) := by
            rw [show i + 1 - (zz_fo s + 1) = (i - (zz_fo s + 1)) + 1 by omega, zz_mm, show zz_fo s + 1 + (i - (zz_fo s + 1)) = i by omega]
          cases e : zz_bt s i with
          | false =>
            rw [zz_Bf, if_pos rfl]
            refine ih2 _ ⟨by omega, ?_⟩
            rw [hstep, e, if_neg (by decide)]
          | true =>
            obtain ⟨r1, r2⟩ := zz_sets2 s hs2 i (by omega) e (by omega)
            have htl := zz_tb_le (S := S) (n := n) h81 (F := 1000000) (s := zz_rs s (zz_fo s) i) (by decide) (by omega)
            have hpl := zz_pq_lt h81 (zz_fo s) i hf (by omega)
            rw [zz_Bt, if_neg (by decide), zc_choice (g := zz_tb (zz_pq S n) 1000000) hs2 hfn hi hn hc (h _ r1), zz_b]
            rw [e, if_pos rfl] at hstep
            have hxb : zz_pq S n (zz_fo s) i + zz_tb (zz_pq S n) 1000000 (zz_rs s (zz_fo s) i) < 3000000 := by omega
            generalize zz_pq S n (zz_fo s) i + zz_tb (zz_pq S n) 1000000 (zz_rs s (zz_fo s) i) = x at *
            generalize zz_mm (zz_bt s) (fun j => zz_pq S n (zz_fo s) j + zz_tb (zz_pq S n) 1000000 (zz_rs s (zz_fo s) j)) 1000000 (zz_fo s + 1) (i - (zz_fo s + 1)) = y at *
            refine ih2 _ ⟨by omega, ?_⟩
            rw [hstep]
            by_cases g : x < y
            · rw [if_pos (nI_lt g (by omega)), if_pos g]
            · rw [if_neg (nI_nlt (by omega) (by omega)), if_neg g]
      rw [f_X7_fillTable_L9, zc_allOf n (by omega), zz_b, if_neg (nI_nlt (by omega) (by omega)), zc_firstOf hs2 (by omega), zz_b, nI_1]
      show ∃ b, (f_X7_fillTable_L31 cs q (nI n) (nI s) (nI (zz_fo s)) K (nI 1000000) (nI (zz_fo s + 1))).bind _ = some b ∧ _
      rw [hin, zz_b, zz_g hs2 (by decide), nI_clamp (by omega), nI_1]
      refine ih _ ⟨by omega, fun j hj => ?_⟩
      rw [zz_upd]
      by_cases e : j = s
      · rw [if_pos e, e]
      · rw [if_neg e]; exact h j (by omega)
    · have : s = 0 := by omega
      subst this
      rw [pk_us, zz_tb_e (by decide), zz_lv_0]
      rfl
  obtain ⟨b, h1, h2⟩ := hL
  refine ⟨b, ?_, h2⟩
  rw [f_X7_fillTable, h1]
  rfl
theorem zm_sets (hn : S 4 = n) (hn8 : n ≤ 8) (hM : zz_Pm S v) (hK : 1000 ≤ K) (h81 : ∀ l, l < n → S (230 + l) < 81) (bs : Nat → Int32) : ∃ b, f_X13_sets K v bs = some b ∧ ∀ s, s < 2 ^ n → b s = nI (zz_tb (zz_pq S n) 100000 s) := by
  obtain ⟨_, h256, hpos⟩ := zz_sets5 n (by omega)
  have hv4 : v 4 = nI n := by rw [hM 4 (by decide), hn]
  have hL : ∃ b, f_X13_sets_L9 K v K 1 (upd bs 0 0) = some b ∧ ∀ s, s < 2 ^ n → b s = nI (zz_tb (zz_pq S n) 100000 s) := by
    refine zz_for (fun K' i (q : Nat → Int32) => f_X13_sets_L9 K v K' (nI i) q) (2 ^ n) (fun i q => 0 < i ∧ ∀ s, s < i → q s = nI (zz_tb (zz_pq S n) 100000 s)) (fun z => ∃ b, z = some b ∧ ∀ s, s < 2 ^ n → b s = nI (zz_tb (zz_pq S n) 100000 s)) ?_ ?_ (2 ^ n - 1) 1 K (upd bs 0 0) (by omega) (by omega) ⟨by decide, fun s hs => ?_⟩
    · intro k q h
      refine ⟨q, ?_, h.2⟩
      show f_X13_sets_L9 K v (k + 1) (nI (2 ^ n)) q = _
      rw [f_X13_sets_L9, hv4, zm_shl n (by omega), if_pos (nI_le (Nat.le_refl _) (by omega))]
    · intro k s q hs h ih
      obtain ⟨hs0, h⟩ := h
      have hs2 : s < 256 := by omega
      obtain ⟨_, hf, hfb, _⟩ := zz_sets1 s hs2 (by omega)
      have hfn := zz_sets4 n (by omega) s hs _ hf hfb
      show ∃ b, f_X13_sets_L9 K v (k + 1) (nI s) q = some b ∧ _
      have hin : ∃ q', f_X13_sets_L38 v (nI s) (nI (zz_fo s)) K (nI (zz_fo s + 1)) (upd q s (nI 100000)) = some q' ∧ q' s = nI (zz_tb (zz_pq S n) 100000 s) ∧ ∀ j, j ≠ s → q' j = q j := by
        rw [← zz_tb_step (zz_pq_lt h81) (F := 100000) (by decide) (by decide) (by omega) hs (by omega)]
        refine zz_for (fun K' i (x : Nat → Int32) => f_X13_sets_L38 v (nI s) (nI (zz_fo s)) K' (nI i) x) n (fun i x => zz_fo s + 1 ≤ i ∧ x s = nI (zz_mm (zz_bt s) (fun j => zz_pq S n (zz_fo s) j + zz_tb (zz_pq S n) 100000 (zz_rs s (zz_fo s) j)) 100000 (zz_fo s + 1) (i - (zz_fo s + 1))) ∧ ∀ j, j ≠ s → x j = q j) (fun z => ∃ q', z = some q' ∧ q' s = nI (zz_mm (zz_bt s) (fun j => zz_pq S n (zz_fo s) j + zz_tb (zz_pq S n) 100000 (zz_rs s (zz_fo s) j)) 100000 (zz_fo s + 1) (n - (zz_fo s + 1))) ∧ ∀ j, j ≠ s → q' j = q j) ?_ ?_ (n - (zz_fo s + 1)) (zz_fo s + 1) K (upd q s (nI 100000)) (by omega) (by omega) ⟨Nat.le_refl _, by rw [Nat.sub_self, pk_us]; rfl, fun j hj => pk_un hj⟩
        · intro k x hx
          refine ⟨x, ?_, hx.2⟩
          show f_X13_sets_L38 v (nI s) (nI (zz_fo s)) (k + 1) (nI n) x = _
          rw [f_X13_sets_L38, hv4, if_pos (nI_le (Nat.le_refl _) (by omega))]
        · intro k i x hi hx ih2
          obtain ⟨hx0, hx1, hx2⟩ := hx
          have hle := zz_mm_le (P := zz_bt s) (c := fun j => zz_pq S n (zz_fo s) j + zz_tb (zz_pq S n) 100000 (zz_rs s (zz_fo s) j)) (F := 100000) (a := zz_fo s + 1) (i - (zz_fo s + 1))
          show ∃ q', f_X13_sets_L38 v (nI s) (nI (zz_fo s)) (k + 1) (nI i) x = some q' ∧ _
          rw [f_X13_sets_L38, hv4, if_neg (nI_ge hi (by omega)), zm_bit s hs2 i (by omega), nI_1]
          have hstep : zz_mm (zz_bt s) (fun j => zz_pq S n (zz_fo s) j + zz_tb (zz_pq S n) 100000 (zz_rs s (zz_fo s) j)) 100000 (zz_fo s + 1) (i + 1 - (zz_fo s + 1)) = if zz_bt s i = true then (if zz_pq S n (zz_fo s) i + zz_tb (zz_pq S n) 100000 (zz_rs s (zz_fo s) i) < zz_mm (zz_bt s) (fun j => zz_pq S n (zz_fo s) j + zz_tb (zz_pq S n) 100000 (zz_rs s (zz_fo s) j)) 100000 (zz_fo s + 1) (i - (zz_fo s + 1)) then zz_pq S n (zz_fo s) i + zz_tb (zz_pq S n) 100000 (zz_rs s (zz_fo s) i) else zz_mm (zz_bt s) (fun j => zz_pq S n (zz_fo s) j + zz_tb (zz_pq S n) 100000 (zz_rs s (zz_fo s) j)) 100000 (zz_fo s + 1) (i - (zz_fo s + 1))) else zz_mm (zz_bt s) (fun j => zz_pq S n (zz_fo s) j + zz_tb (zz_pq S n) 100000 (zz_rs s (zz_fo s) j)) 100000 (zz_fo s + 1) (i - (zz_fo s + 1)) := by
            rw [show i + 1 - (zz_fo s + 1) = (i - (zz_fo s + 1)) + 1 by omega, zz_mm, show zz_fo s + 1 + (i - (zz_fo s + 1)) = i by omega]
          cases e : zz_bt s i with
          | false =>
            rw [zz_Bf, if_pos rfl]
            refine ih2 _ ⟨by omega, ?_, hx2⟩
            rw [hx1, hstep, e, if_neg (by decide)]
          | true =>
            obtain ⟨r1, r2⟩ := zz_sets2 s hs2 i (by omega) e (by omega)
            have htl := zz_tb_le (S := S) (n := n) h81 (F := 100000) (s := zz_rs s (zz_fo s) i) (by decide) (by omega)
            have hpl := zz_pq_lt h81 (zz_fo s) i hf (by omega)
            rw [zz_Bt, if_neg (by decide), zm_pair hn8 hM h81 hfn hi, zz_b, zz_without hs2 hf (by omega), zz_g (show zz_rs s (zz_fo s) i < 256 by omega) (by decide), zz_g hs2 (by decide), zz_g hs2 (by decide), nI_clamp (by omega), nI_clamp (by omega), hx1, hx2 _ (by omega), h _ r1, nI_add]
            rw [e, if_pos rfl] at hstep
            have hxb : zz_pq S n (zz_fo s) i + zz_tb (zz_pq S n) 100000 (zz_rs s (zz_fo s) i) < 3000000 := by omega
            generalize zz_pq S n (zz_fo s) i + zz_tb (zz_pq S n) 100000 (zz_rs s (zz_fo s) i) = z at *
            generalize zz_mm (zz_bt s) (fun j => zz_pq S n (zz_fo s) j + zz_tb (zz_pq S n) 100000 (zz_rs s (zz_fo s) j)) 100000 (zz_fo s + 1) (i - (zz_fo s + 1)) = y at *
            by_cases g : z < y
            · rw [if_neg (nI_ge g (by omega))]
              refine ih2 _ ⟨by omega, by rw [pk_us, hstep, if_pos g], fun j hj => by rw [pk_un hj]; exact hx2 j hj⟩
            · rw [if_pos (nI_le (by omega) (by omega))]
              refine ih2 _ ⟨by omega, by rw [hx1, hstep, if_neg g], hx2⟩
      obtain ⟨q', i1, i2, i3⟩ := hin
      rw [f_X13_sets_L9, hv4, zm_shl n (by omega), if_neg (nI_ge hs (by omega)), zm_lowest hs2 (by omega) (by omega), zz_b, zz_g hs2 (by decide), nI_clamp (by omega), nI_1, nI_1]
      show ∃ b, (f_X13_sets_L38 v (nI s) (nI (zz_fo s)) K (nI (zz_fo s + 1)) (upd q s (nI 100000))).bind _ = some b ∧ _
      rw [i1, zz_b]
      refine ih _ ⟨by omega, fun j hj => ?_⟩
      by_cases e : j = s
      · rw [e]; exact i2
      · rw [i3 j e]; exact h j (by omega)
    · have : s = 0 := by omega
      subst this
      rw [pk_us, zz_tb_e (by decide), zz_lv_0]
      rfl
  obtain ⟨b, h1, h2⟩ := hL
  refine ⟨b, ?_, h2⟩
  rw [f_X13_sets, h1]
  rfl
theorem zc_least1 (hK : 100 ≤ K) (s : Nat) : f_X7_leastCost_lvl1 K (nI s) (nI 4) = some (nI (zz_lv (zz_pq S n) 0 s)) := by
  rw [f_X7_leastCost_lvl1]
  by_cases e : nI s = 0
  · rw [if_pos e]; rfl
  · rw [if_neg e, if_neg (by decide)]; rfl
theorem zc_least2 (hn : n ≤ 8) (hK : 100 ≤ K) (h81 : ∀ l, l < n → S (230 + l) < 81) (hc : ∀ a b, a < n → b < n → cs (a * 8 + b) = nI (zz_pq S n a b)) {s : Nat} (hs : s < 2 ^ n) (he : zz_pop s % 2 = 0) (hp : zz_pop s ≤ 2) : f_X7_leastCost_lvl2 K cs (nI s) (nI 3) = some (nI (zz_lv (zz_pq S n) 1 s)) := by
  have h256 := (zz_sets5 n (by omega)).2.1
  have hs2 : s < 256 := by omega
  by_cases h0 : s = 0
  · subst h0
    rw [f_X7_leastCost_lvl2, if_pos (by decide), zz_lv_0]
    rfl
  · obtain ⟨_, hf, hfb, _⟩ := zz_sets1 s hs2 h0
    have hfn := zz_sets4 n (by omega) s hs _ hf hfb
    have hl : zz_lv (zz_pq S n) 1 s = zz_mm (zz_bt s) (fun j => zz_pq S n (zz_fo s) j + zz_lv (zz_pq S n) 0 (zz_rs s (zz_fo s) j)) 1000000 (zz_fo s + 1) (8 - (zz_fo s + 1)) := if_neg h0
    rw [f_X7_leastCost_lvl2, if_neg (nI_ne0 (by omega) (by omega)), if_pos (by decide), zc_firstOf hs2 hK, zz_b, hl, nI_1]
    have hin : f_X7_leastCost_lvl2_L25 K cs (nI s) (nI 3) (nI (zz_fo s)) K (nI 1000000) (nI (zz_fo s + 1)) = some (nI (zz_mm (zz_bt s) (fun j => zz_pq S n (zz_fo s) j + zz_lv (zz_pq S n) 0 (zz_rs s (zz_fo s) j)) 1000000 (zz_fo s + 1) (8 - (zz_fo s + 1)))) := by
      refine zz_for (fun K' i (x : Int32) => f_X7_leastCost_lvl2_L25 K cs (nI s) (nI 3) (nI (zz_fo s)) K' x (nI i)) 8 (fun i x => zz_fo s + 1 ≤ i ∧ x = nI (zz_mm (zz_bt s) (fun j => zz_pq S n (zz_fo s) j + zz_lv (zz_pq S n) 0 (zz_rs s (zz_fo s) j)) 1000000 (zz_fo s + 1) (i - (zz_fo s + 1)))) (fun z => z = some (nI (zz_mm (zz_bt s) (fun j => zz_pq S n (zz_fo s) j + zz_lv (zz_pq S n) 0 (zz_rs s (zz_fo s) j)) 1000000 (zz_fo s + 1) (8 - (zz_fo s + 1))))) ?_ ?_ (8 - (zz_fo s + 1)) (zz_fo s + 1) K (nI 1000000) (by omega) (by omega) ⟨Nat.le_refl _, by rw [Nat.sub_self]; rfl⟩
      · intro k x hx
        show f_X7_leastCost_lvl2_L25 K cs (nI s) (nI 3) (nI (zz_fo s)) (k + 1) x (nI 8) = _
        rw [f_X7_leastCost_lvl2_L25, if_pos (by decide), hx.2]
      · intro k i x hi hx ih2
        obtain ⟨hx0, rfl⟩ := hx
        have hle := zz_mm_le (P := zz_bt s) (c := fun j => zz_pq S n (zz_fo s) j + zz_lv (zz_pq S n) 0 (zz_rs s (zz_fo s) j)) (F := 1000000) (a := zz_fo s + 1) (i - (zz_fo s + 1))
        show f_X7_leastCost_lvl2_L25 K cs (nI s) (nI 3) (nI (zz_fo s)) (k + 1) _ (nI i) = _
        rw [f_X7_leastCost_lvl2_L25, zz_l8, if_neg (nI_ge hi (by decide)), zc_holds s hs2 i hi, zz_b, nI_1, nI_1]
        have hstep : zz_mm (zz_bt s) (fun j => zz_pq S n (zz_fo s) j + zz_lv (zz_pq S n) 0 (zz_rs s (zz_fo s) j)) 1000000 (zz_fo s + 1) (i + 1 - (zz_fo s + 1)) = if zz_bt s i = true then (if zz_pq S n (zz_fo s) i + zz_lv (zz_pq S n) 0 (zz_rs s (zz_fo s) i) < zz_mm (zz_bt s) (fun j => zz_pq S n (zz_fo s) j + zz_lv (zz_pq S n) 0 (zz_rs s (zz_fo s) j)) 1000000 (zz_fo s + 1) (i - (zz_fo s + 1)) then zz_pq S n (zz_fo s) i + zz_lv (zz_pq S n) 0 (zz_rs s (zz_fo s) i) else zz_mm (zz_bt s) (fun j => zz_pq S n (zz_fo s) j + zz_lv (zz_pq S n) 0 (zz_rs s (zz_fo s) j)) 1000000 (zz_fo s + 1) (i - (zz_fo s + 1))) else zz_mm (zz_bt s) (fun j => zz_pq S n (zz_fo s) j + zz_lv (zz_pq S n) 0 (zz_rs s (zz_fo s) j)) 1000000 (zz_fo s + 1) (i - (zz_fo s + 1)) := by
          rw [show i + 1 - (zz_fo s + 1) = (i - (zz_fo s + 1)) + 1 by omega, zz_mm, show zz_fo s + 1 + (i - (zz_fo s + 1)) = i by omega]
        cases e : zz_bt s i with
        | false =>
          rw [zz_Bf, if_pos (show (0 : Int32) = 0 from rfl)]
          refine ih2 _ ⟨by omega, ?_⟩
          rw [hstep, e, if_neg (by decide)]
        | true =>
          obtain ⟨r1, r2⟩ := zz_sets2 s hs2 i hi e (by omega)
          have hin := zz_sets4 n (by omega) s hs i hi e
          have hlv := (zz_lv_s (zz_pq_lt h81) 0 (zz_rs s (zz_fo s) i) (by decide) (by omega) (by omega) (by omega)).1
          have hpl := zz_pq_lt h81 (zz_fo s) i hf hi
          have hrec : f_X7_leastCost_lvl1 K (nI (zz_rs s (zz_fo s) i)) (nI (3 + 1)) = some (nI (zz_lv (zz_pq S n) 0 (zz_rs s (zz_fo s) i))) := zc_least1 hK _
          rw [zz_Bt, if_neg (show ¬ ((1 : Int32) = 0) by decide), zc_without hs2 hf hi, zz_b, hrec, zz_b, pk_mul, nI_add, zz_g (by omega) (by decide), nI_clamp (by omega), hc _ _ hfn hin, nI_add]
          rw [e, if_pos rfl] at hstep
          have hxb : zz_pq S n (zz_fo s) i + zz_lv (zz_pq S n) 0 (zz_rs s (zz_fo s) i) < 3000000 := by omega
          generalize zz_pq S n (zz_fo s) i + zz_lv (zz_pq S n) 0 (zz_rs s (zz_fo s) i) = x at *
          generalize zz_mm (zz_bt s) (fun j => zz_pq S n (zz_fo s) j + zz_lv (zz_pq S n) 0 (zz_rs s (zz_fo s) j)) 1000000 (zz_fo s + 1) (i - (zz_fo s + 1)) = y at *
          refine ih2 _ ⟨by omega, ?_⟩
          rw [hstep]
          by_cases g : x < y
          · rw [if_pos (nI_lt g (by omega)), if_pos g]
          · rw [if_neg (nI_nlt (by omega) (by omega)), if_neg g]
    show (f_X7_leastCost_lvl2_L25 K cs (nI s) (nI 3) (nI (zz_fo s)) K (nI 1000000) (nI (zz_fo s + 1))).bind _ = _
    rw [hin]
    rfl
theorem zc_least3 (hn : n ≤ 8) (hK : 100 ≤ K) (h81 : ∀ l, l < n → S (230 + l) < 81) (hc : ∀ a b, a < n → b < n → cs (a * 8 + b) = nI (zz_pq S n a b)) {s : Nat} (hs : s < 2 ^ n) (he : zz_pop s % 2 = 0) (hp : zz_pop s ≤ 4) : f_X7_leastCost_lvl3 K cs (nI s) (nI 2) = some (nI (zz_lv (zz_pq S n) 2 s)) := by
  have h256 := (zz_sets5 n (by omega)).2.1
  have hs2 : s < 256 := by omega
  by_cases h0 : s = 0
  · subst h0
    rw [f_X7_leastCost_lvl3, if_pos (by decide), zz_lv_0]
    rfl
  · obtain ⟨_, hf, hfb, _⟩ := zz_sets1 s hs2 h0
    have hfn := zz_sets4 n (by omega) s hs _ hf hfb
    have hl : zz_lv (zz_pq S n) 2 s = zz_mm (zz_bt s) (fun j => zz_pq S n (zz_fo s) j + zz_lv (zz_pq S n) 1 (zz_rs s (zz_fo s) j)) 1000000 (zz_fo s + 1) (8 - (zz_fo s + 1)) := if_neg h0
    rw [f_X7_leastCost_lvl3, if_neg (nI_ne0 (by omega) (by omega)), if_pos (by decide), zc_firstOf hs2 hK, zz_b, hl, nI_1]
    have hin : f_X7_leastCost_lvl3_L25 K cs (nI s) (nI 2) (nI (zz_fo s)) K (nI 1000000) (nI (zz_fo s + 1)) = some (nI (zz_mm (zz_bt s) (fun j => zz_pq S n (zz_fo s) j + zz_lv (zz_pq S n) 1 (zz_rs s (zz_fo s) j)) 1000000 (zz_fo s + 1) (8 - (zz_fo s + 1)))) := by
      refine zz_for (fun K' i (x : Int32) => f_X7_leastCost_lvl3_L25 K cs (nI s) (nI 2) (nI (zz_fo s)) K' x (nI i)) 8 (fun i x => zz_fo s + 1 ≤ i ∧ x = nI (zz_mm (zz_bt s) (fun j => zz_pq S n (zz_fo s) j + zz_lv (zz_pq S n) 1 (zz_rs s (zz_fo s) j)) 1000000 (zz_fo s + 1) (i - (zz_fo s + 1)))) (fun z => z = some (nI (zz_mm (zz_bt s) (fun j => zz_pq S n (zz_fo s) j + zz_lv (zz_pq S n) 1 (zz_rs s (zz_fo s) j)) 1000000 (zz_fo s + 1) (8 - (zz_fo s + 1))))) ?_ ?_ (8 - (zz_fo s + 1)) (zz_fo s + 1) K (nI 1000000) (by omega) (by omega) ⟨Nat.le_refl _, by rw [Nat.sub_self]; rfl⟩
      · intro k x hx
        show f_X7_leastCost_lvl3_L25 K cs (nI s) (nI 2) (nI (zz_fo s)) (k + 1) x (nI 8) = _
        rw [f_X7_leastCost_lvl3_L25, if_pos (by decide), hx.2]
      · intro k i x hi hx ih2
        obtain ⟨hx0, rfl⟩ := hx
        have hle := zz_mm_le (P := zz_bt s) (c := fun j => zz_pq S n (zz_fo s) j + zz_lv (zz_pq S n) 1 (zz_rs s (zz_fo s) j)) (F := 1000000) (a := zz_fo s + 1) (i - (zz_fo s + 1))
        show f_X7_leastCost_lvl3_L25 K cs (nI s) (nI 2) (nI (zz_fo s)) (k + 1) _ (nI i) = _
        rw [f_X7_leastCost_lvl3_L25, zz_l8, if_neg (nI_ge hi (by decide)), zc_holds s hs2 i hi, zz_b, nI_1, nI_1]
        have hstep : zz_mm (zz_bt s) (fun j => zz_pq S n (zz_fo s) j + zz_lv (zz_pq S n) 1 (zz_rs s (zz_fo s) j)) 1000000 (zz_fo s + 1) (i + 1 - (zz_fo s + 1)) = if zz_bt s i = true then (if zz_pq S n (zz_fo s) i + zz_lv (zz_pq S n) 1 (zz_rs s (zz_fo s) i) < zz_mm (zz_bt s) (fun j => zz_pq S n (zz_fo s) j + zz_lv (zz_pq S n) 1 (zz_rs s (zz_fo s) j)) 1000000 (zz_fo s + 1) (i - (zz_fo s + 1)) then zz_pq S n (zz_fo s) i + zz_lv (zz_pq S n) 1 (zz_rs s (zz_fo s) i) else zz_mm (zz_bt s) (fun j => zz_pq S n (zz_fo s) j + zz_lv (zz_pq S n) 1 (zz_rs s (zz_fo s) j)) 1000000 (zz_fo s + 1) (i - (zz_fo s + 1))) else zz_mm (zz_bt s) (fun j => zz_pq S n (zz_fo s) j + zz_lv (zz_pq S n) 1 (zz_rs s (zz_fo s) j)) 1000000 (zz_fo s + 1) (i - (zz_fo s + 1)) := by
          rw [show i + 1 - (zz_fo s + 1) = (i - (zz_fo s + 1)) + 1 by omega, zz_mm, show zz_fo s + 1 + (i - (zz_fo s + 1)) = i by omega]
        cases e : zz_bt s i with
        | false =>
          rw [zz_Bf, if_pos (show (0 : Int32) = 0 from rfl)]
          refine ih2 _ ⟨by omega, ?_⟩
          rw [hstep, e, if_neg (by decide)]
        | true =>
          obtain ⟨r1, r2⟩ := zz_sets2 s hs2 i hi e (by omega)
          have hin := zz_sets4 n (by omega) s hs i hi e
          have hlv := (zz_lv_s (zz_pq_lt h81) 1 (zz_rs s (zz_fo s) i) (by decide) (by omega) (by omega) (by omega)).1
          have hpl := zz_pq_lt h81 (zz_fo s) i hf hi
          have hrec : f_X7_leastCost_lvl2 K cs (nI (zz_rs s (zz_fo s) i)) (nI (2 + 1)) = some (nI (zz_lv (zz_pq S n) 1 (zz_rs s (zz_fo s) i))) := zc_least2 hn hK h81 hc (by omega) (by omega) (by omega)
          rw [zz_Bt, if_neg (show ¬ ((1 : Int32) = 0) by decide), zc_without hs2 hf hi, zz_b, hrec, zz_b, pk_mul, nI_add, zz_g (by omega) (by decide), nI_clamp (by omega), hc _ _ hfn hin, nI_add]
          rw [e, if_pos rfl] at hstep
          have hxb : zz_pq S n (zz_fo s) i + zz_lv (zz_pq S n) 1 (zz_rs s (zz_fo s) i) < 3000000 := by omega
          generalize zz_pq S n (zz_fo s) i + zz_lv (zz_pq S n) 1 (zz_rs s (zz_fo s) i) = x at *
          generalize zz_mm (zz_bt s) (fun j => zz_pq S n (zz_fo s) j + zz_lv (zz_pq S n) 1 (zz_rs s (zz_fo s) j)) 1000000 (zz_fo s + 1) (i - (zz_fo s + 1)) = y at *
          refine ih2 _ ⟨by omega, ?_⟩
          rw [hstep]
          by_cases g : x < y
          · rw [if_pos (nI_lt g (by omega)), if_pos g]
          · rw [if_neg (nI_nlt (by omega) (by omega)), if_neg g]
    show (f_X7_leastCost_lvl3_L25 K cs (nI s) (nI 2) (nI (zz_fo s)) K (nI 1000000) (nI (zz_fo s + 1))).bind _ = _
    rw [hin]
    rfl
theorem zc_least4 (hn : n ≤ 8) (hK : 100 ≤ K) (h81 : ∀ l, l < n → S (230 + l) < 81) (hc : ∀ a b, a < n → b < n → cs (a * 8 + b) = nI (zz_pq S n a b)) {s : Nat} (hs : s < 2 ^ n) (he : zz_pop s % 2 = 0) (hp : zz_pop s ≤ 6) : f_X7_leastCost_lvl4 K cs (nI s) (nI 1) = some (nI (zz_lv (zz_pq S n) 3 s)) := by
  have h256 := (zz_sets5 n (by omega)).2.1
  have hs2 : s < 256 := by omega
  by_cases h0 : s = 0
  · subst h0
    rw [f_X7_leastCost_lvl4, if_pos (by decide), zz_lv_0]
    rfl
  · obtain ⟨_, hf, hfb, _⟩ := zz_sets1 s hs2 h0
    have hfn := zz_sets4 n (by omega) s hs _ hf hfb
    have hl : zz_lv (zz_pq S n) 3 s = zz_mm (zz_bt s) (fun j => zz_pq S n (zz_fo s) j + zz_lv (zz_pq S n) 2 (zz_rs s (zz_fo s) j)) 1000000 (zz_fo s + 1) (8 - (zz_fo s + 1)) := if_neg h0
    rw [f_X7_leastCost_lvl4, if_neg (nI_ne0 (by omega) (by omega)), if_pos (by decide), zc_firstOf hs2 hK, zz_b, hl, nI_1]
    have hin : f_X7_leastCost_lvl4_L25 K cs (nI s) (nI 1) (nI (zz_fo s)) K (nI 1000000) (nI (zz_fo s + 1)) = some (nI (zz_mm (zz_bt s) (fun j => zz_pq S n (zz_fo s) j + zz_lv (zz_pq S n) 2 (zz_rs s (zz_fo s) j)) 1000000 (zz_fo s + 1) (8 - (zz_fo s + 1)))) := by
      refine zz_for (fun K' i (x : Int32) => f_X7_leastCost_lvl4_L25 K cs (nI s) (nI 1) (nI (zz_fo s)) K' x (nI i)) 8 (fun i x => zz_fo s + 1 ≤ i ∧ x = nI (zz_mm (zz_bt s) (fun j => zz_pq S n (zz_fo s) j + zz_lv (zz_pq S n) 2 (zz_rs s (zz_fo s) j)) 1000000 (zz_fo s + 1) (i - (zz_fo s + 1)))) (fun z => z = some (nI (zz_mm (zz_bt s) (fun j => zz_pq S n (zz_fo s) j + zz_lv (zz_pq S n) 2 (zz_rs s (zz_fo s) j)) 1000000 (zz_fo s + 1) (8 - (zz_fo s + 1))))) ?_ ?_ (8 - (zz_fo s + 1)) (zz_fo s + 1) K (nI 1000000) (by omega) (by omega) ⟨Nat.le_refl _, by rw [Nat.sub_self]; rfl⟩
      · intro k x hx
        show f_X7_leastCost_lvl4_L25 K cs (nI s) (nI 1) (nI (zz_fo s)) (k + 1) x (nI 8) = _
        rw [f_X7_leastCost_lvl4_L25, if_pos (by decide), hx.2]
      · intro k i x hi hx ih2
        obtain ⟨hx0, rfl⟩ := hx
        have hle := zz_mm_le (P := zz_bt s) (c := fun j => zz_pq S n (zz_fo s) j + zz_lv (zz_pq S n) 2 (zz_rs s (zz_fo s) j)) (F := 1000000) (a := zz_fo s + 1) (i - (zz_fo s + 1))
        show f_X7_leastCost_lvl4_L25 K cs (nI s) (nI 1) (nI (zz_fo s)) (k + 1) _ (nI i) = _
        rw [f_X7_leastCost_lvl4_L25, zz_l8, if_neg (nI_ge hi (by decide)), zc_holds s hs2 i hi, zz_b, nI_1, nI_1]
        have hstep : zz_mm (zz_bt s) (fun j => zz_pq S n (zz_fo s) j + zz_lv (zz_pq S n) 2 (zz_rs s (zz_fo s) j)) 1000000 (zz_fo s + 1) (i + 1 - (zz_fo s + 1)) = if zz_bt s i = true then (if zz_pq S n (zz_fo s) i + zz_lv (zz_pq S n) 2 (zz_rs s (zz_fo s) i) < zz_mm (zz_bt s) (fun j => zz_pq S n (zz_fo s) j + zz_lv (zz_pq S n) 2 (zz_rs s (zz_fo s) j)) 1000000 (zz_fo s + 1) (i - (zz_fo s + 1)) then zz_pq S n (zz_fo s) i + zz_lv (zz_pq S n) 2 (zz_rs s (zz_fo s) i) else zz_mm (zz_bt s) (fun j => zz_pq S n (zz_fo s) j + zz_lv (zz_pq S n) 2 (zz_rs s (zz_fo s) j)) 1000000 (zz_fo s + 1) (i - (zz_fo s + 1))) else zz_mm (zz_bt s) (fun j => zz_pq S n (zz_fo s) j + zz_lv (zz_pq S n) 2 (zz_rs s (zz_fo s) j)) 1000000 (zz_fo s + 1) (i - (zz_fo s + 1)) := by
          rw [show i + 1 - (zz_fo s + 1) = (i - (zz_fo s + 1)) + 1 by omega, zz_mm, show zz_fo s + 1 + (i - (zz_fo s + 1)) = i by omega]
        cases e : zz_bt s i with
        | false =>
          rw [zz_Bf, if_pos (show (0 : Int32) = 0 from rfl)]
          refine ih2 _ ⟨by omega, ?_⟩
          rw [hstep, e, if_neg (by decide)]
        | true =>
          obtain ⟨r1, r2⟩ := zz_sets2 s hs2 i hi e (by omega)
          have hin := zz_sets4 n (by omega) s hs i hi e
          have hlv := (zz_lv_s (zz_pq_lt h81) 2 (zz_rs s (zz_fo s) i) (by decide) (by omega) (by omega) (by omega)).1
          have hpl := zz_pq_lt h81 (zz_fo s) i hf hi
          have hrec : f_X7_leastCost_lvl3 K cs (nI (zz_rs s (zz_fo s) i)) (nI (1 + 1)) = some (nI (zz_lv (zz_pq S n) 2 (zz_rs s (zz_fo s) i))) := zc_least3 hn hK h81 hc (by omega) (by omega) (by omega)
          rw [zz_Bt, if_neg (show ¬ ((1 : Int32) = 0) by decide), zc_without hs2 hf hi, zz_b, hrec, zz_b, pk_mul, nI_add, zz_g (by omega) (by decide), nI_clamp (by omega), hc _ _ hfn hin, nI_add]
          rw [e, if_pos rfl] at hstep
          have hxb : zz_pq S n (zz_fo s) i + zz_lv (zz_pq S n) 2 (zz_rs s (zz_fo s) i) < 3000000 := by omega
          generalize zz_pq S n (zz_fo s) i + zz_lv (zz_pq S n) 2 (zz_rs s (zz_fo s) i) = x at *
          generalize zz_mm (zz_bt s) (fun j => zz_pq S n (zz_fo s) j + zz_lv (zz_pq S n) 2 (zz_rs s (zz_fo s) j)) 1000000 (zz_fo s + 1) (i - (zz_fo s + 1)) = y at *
          refine ih2 _ ⟨by omega, ?_⟩
          rw [hstep]
          by_cases g : x < y
          · rw [if_pos (nI_lt g (by omega)), if_pos g]
          · rw [if_neg (nI_nlt (by omega) (by omega)), if_neg g]
    show (f_X7_leastCost_lvl4_L25 K cs (nI s) (nI 1) (nI (zz_fo s)) K (nI 1000000) (nI (zz_fo s + 1))).bind _ = _
    rw [hin]
    rfl
theorem zc_least5 (hn : n ≤ 8) (hK : 100 ≤ K) (h81 : ∀ l, l < n → S (230 + l) < 81) (hc : ∀ a b, a < n → b < n → cs (a * 8 + b) = nI (zz_pq S n a b)) {s : Nat} (hs : s < 2 ^ n) (he : zz_pop s % 2 = 0) (hp : zz_pop s ≤ 8) : f_X7_leastCost_lvl5 K cs (nI s) (nI 0) = some (nI (zz_lv (zz_pq S n) 4 s)) := by
  have h256 := (zz_sets5 n (by omega)).2.1
  have hs2 : s < 256 := by omega
  by_cases h0 : s = 0
  · subst h0
    rw [f_X7_leastCost_lvl5, if_pos (by decide), zz_lv_0]
    rfl
  · obtain ⟨_, hf, hfb, _⟩ := zz_sets1 s hs2 h0
    have hfn := zz_sets4 n (by omega) s hs _ hf hfb
    have hl : zz_lv (zz_pq S n) 4 s = zz_mm (zz_bt s) (fun j => zz_pq S n (zz_fo s) j + zz_lv (zz_pq S n) 3 (zz_rs s (zz_fo s) j)) 1000000 (zz_fo s + 1) (8 - (zz_fo s + 1)) := if_neg h0
    rw [f_X7_leastCost_lvl5, if_neg (nI_ne0 (by omega) (by omega)), if_pos (by decide), zc_firstOf hs2 hK, zz_b, hl, nI_1]
    have hin : f_X7_leastCost_lvl5_L25 K cs (nI s) (nI 0) (nI (zz_fo s)) K (nI 1000000) (nI (zz_fo s + 1)) = some (nI (zz_mm (zz_bt s) (fun j => zz_pq S n (zz_fo s) j + zz_lv (zz_pq S n) 3 (zz_rs s (zz_fo s) j)) 1000000 (zz_fo s + 1) (8 - (zz_fo s + 1)))) := by
      refine zz_for (fun K' i (x : Int32) => f_X7_leastCost_lvl5_L25 K cs (nI s) (nI 0) (nI (zz_fo s)) K' x (nI i)) 8 (fun i x => zz_fo s + 1 ≤ i ∧ x = nI (zz_mm (zz_bt s) (fun j => zz_pq S n (zz_fo s) j + zz_lv (zz_pq S n) 3 (zz_rs s (zz_fo s) j)) 1000000 (zz_fo s + 1) (i - (zz_fo s + 1)))) (fun z => z = some (nI (zz_mm (zz_bt s) (fun j => zz_pq S n (zz_fo s) j + zz_lv (zz_pq S n) 3 (zz_rs s (zz_fo s) j)) 1000000 (zz_fo s + 1) (8 - (zz_fo s + 1))))) ?_ ?_ (8 - (zz_fo s + 1)) (zz_fo s + 1) K (nI 1000000) (by omega) (by omega) ⟨Nat.le_refl _, by rw [Nat.sub_self]; rfl⟩
      · intro k x hx
        show f_X7_leastCost_lvl5_L25 K cs (nI s) (nI 0) (nI (zz_fo s)) (k + 1) x (nI 8) = _
        rw [f_X7_leastCost_lvl5_L25, if_pos (by decide), hx.2]
      · intro k i x hi hx ih2
        obtain ⟨hx0, rfl⟩ := hx
        have hle := zz_mm_le (P := zz_bt s) (c := fun j => zz_pq S n (zz_fo s) j + zz_lv (zz_pq S n) 3 (zz_rs s (zz_fo s) j)) (F := 1000000) (a := zz_fo s + 1) (i - (zz_fo s + 1))
        show f_X7_leastCost_lvl5_L25 K cs (nI s) (nI 0) (nI (zz_fo s)) (k + 1) _ (nI i) = _
        rw [f_X7_leastCost_lvl5_L25, zz_l8, if_neg (nI_ge hi (by decide)), zc_holds s hs2 i hi, zz_b, nI_1, nI_1]
        have hstep : zz_mm (zz_bt s) (fun j => zz_pq S n (zz_fo s) j + zz_lv (zz_pq S n) 3 (zz_rs s (zz_fo s) j)) 1000000 (zz_fo s + 1) (i + 1 - (zz_fo s + 1)) = if zz_bt s i = true then (if zz_pq S n (zz_fo s) i + zz_lv (zz_pq S n) 3 (zz_rs s (zz_fo s) i) < zz_mm (zz_bt s) (fun j => zz_pq S n (zz_fo s) j + zz_lv (zz_pq S n) 3 (zz_rs s (zz_fo s) j)) 1000000 (zz_fo s + 1) (i - (zz_fo s + 1)) then zz_pq S n (zz_fo s) i + zz_lv (zz_pq S n) 3 (zz_rs s (zz_fo s) i) else zz_mm (zz_bt s) (fun j => zz_pq S n (zz_fo s) j + zz_lv (zz_pq S n) 3 (zz_rs s (zz_fo s) j)) 1000000 (zz_fo s + 1) (i - (zz_fo s + 1))) else zz_mm (zz_bt s) (fun j => zz_pq S n (zz_fo s) j + zz_lv (zz_pq S n) 3 (zz_rs s (zz_fo s) j)) 1000000 (zz_fo s + 1) (i - (zz_fo s + 1)) := by
          rw [show i + 1 - (zz_fo s + 1) = (i - (zz_fo s + 1)) + 1 by omega, zz_mm, show zz_fo s + 1 + (i - (zz_fo s + 1)) = i by omega]
        cases e : zz_bt s i with
        | false =>
          rw [zz_Bf, if_pos (show (0 : Int32) = 0 from rfl)]
          refine ih2 _ ⟨by omega, ?_⟩
          rw [hstep, e, if_neg (by decide)]
        | true =>
          obtain ⟨r1, r2⟩ := zz_sets2 s hs2 i hi e (by omega)
          have hin := zz_sets4 n (by omega) s hs i hi e
          have hlv := (zz_lv_s (zz_pq_lt h81) 3 (zz_rs s (zz_fo s) i) (by decide) (by omega) (by omega) (by omega)).1
          have hpl := zz_pq_lt h81 (zz_fo s) i hf hi
          have hrec : f_X7_leastCost_lvl4 K cs (nI (zz_rs s (zz_fo s) i)) (nI (0 + 1)) = some (nI (zz_lv (zz_pq S n) 3 (zz_rs s (zz_fo s) i))) := zc_least4 hn hK h81 hc (by omega) (by omega) (by omega)
          rw [zz_Bt, if_neg (show ¬ ((1 : Int32) = 0) by decide), zc_without hs2 hf hi, zz_b, hrec, zz_b, pk_mul, nI_add, zz_g (by omega) (by decide), nI_clamp (by omega), hc _ _ hfn hin, nI_add]
          rw [e, if_pos rfl] at hstep
          have hxb : zz_pq S n (zz_fo s) i + zz_lv (zz_pq S n) 3 (zz_rs s (zz_fo s) i) < 3000000 := by omega
          generalize zz_pq S n (zz_fo s) i + zz_lv (zz_pq S n) 3 (zz_rs s (zz_fo s) i) = x at *
          generalize zz_mm (zz_bt s) (fun j => zz_pq S n (zz_fo s) j + zz_lv (zz_pq S n) 3 (zz_rs s (zz_fo s) j)) 1000000 (zz_fo s + 1) (i - (zz_fo s + 1)) = y at *
          refine ih2 _ ⟨by omega, ?_⟩
          rw [hstep]
          by_cases g : x < y
          · rw [if_pos (nI_lt g (by omega)), if_pos g]
          · rw [if_neg (nI_nlt (by omega) (by omega)), if_neg g]
    show (f_X7_leastCost_lvl5_L25 K cs (nI s) (nI 0) (nI (zz_fo s)) K (nI 1000000) (nI (zz_fo s + 1))).bind _ = _
    rw [hin]
    rfl
end ZPR
