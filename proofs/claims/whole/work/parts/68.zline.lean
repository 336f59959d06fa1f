-- the line on both sides
section ZLI
variable {S : Nat → Nat} {B K : Nat} {st nu ce fa mo le ls ml : Nat → Int32} {ct br fc nx to re me ll mn : Int32} {v : Nat → Int32}
def zz_Ln (n : Nat) (ls ml : Nat → Int32) : Prop := ∀ k, k < n → ∃ z, z < 65536 ∧ ls k = nI z ∧ ml k = nI z
theorem zz_Ln_u {n z : Nat} (h : zz_Ln n ls ml) (hz : z < 65536) : zz_Ln (n + 1) (upd ls n (nI z)) (upd ml n (nI z)) := by
  intro k hk
  rw [zz_upd, zz_upd]
  by_cases e : k = n
  · rw [if_pos e, if_pos e]
    exact ⟨z, hz, rfl, rfl⟩
  · rw [if_neg e, if_neg e]
    exact h k (by omega)
theorem zc_put {n z : Nat} (hn : n < 60) (hz : z < 65536) (ls : Nat → Int32) : f_X10_put ls (nI n) (nI z) = some (nI (n + 1), upd ls n (nI z), nI (n + 1)) := by
  rw [f_X10_put, zz_l60, if_neg (nI_ge hn (by decide)), zz_g hn (by decide), nI_clamp (by omega), nI_1, zz_vc hz]
theorem zm_writes {n z : Nat} (hn : n < 50) (ml : Nat → Int32) : f_X13_writes ml (nI n) (nI z) = some (upd ml n (nI z), nI (n + 1)) := by
  rw [f_X13_writes, zz_g hn (by decide), nI_clamp (by omega), nI_1]
def zz_sg (S : Nat → Nat) (c : Nat) : Nat := match zz_pn S c with
  | some b => 48 + S (88 + 4 * b) % 10
  | none => match zz_pn S (zz_i c) with
    | some _ => 126
    | none => if S (7 + c) = 1 then 35 else if S (7 + c) = 2 then 39 else 46
theorem zz_sg_lt (c : Nat) : zz_sg S c < 127 := by
  unfold zz_sg
  split
  · omega
  · split
    · omega
    · split
      · omega
      · split <;> omega
theorem zc_signOf (hB : B ≤ 1000000) (ir : zz_Ir S) (ib : zz_Ib B S) (hs : ∀ c, c < 81 → st c = nI (S (7 + c))) (p1 : ∀ b, b < S 3 → nu b = nI (S (88 + 4 * b))) (p2 : ∀ b, b < S 3 → ce b = nI (zz_c S b)) (hK : 10 ≤ K) {c : Nat} (hc : c < 81) : f_X6_signOf K st nu ce (nI (S 3)) (nI c) = some (nI (zz_sg S c)) := by
  have h4 := ib.2.1
  have hx : ∀ b, b < S 3 → zz_c S b < 81 := fun b hb => zz_Ib_c ib hb
  have h2 := zz_i_lt c hc
  have hr := ir.2.2 c hc
  rw [f_X6_signOf, zc_placeIn hx p2 h4 hK hc, zz_b]
  unfold zz_sg
  cases e : zz_pn S c with
  | some b =>
    obtain ⟨hb, _, _⟩ := zz_fi_some e
    have hnb := (ib.2.2.2.2 b hb).2.2
    have hi1 := ib.1
    rw [zz_os, if_neg (zz_n1 (by omega)), zz_g (by omega) (by decide), nI_clamp (by omega), p1 b hb, zz_l10, pk_rem (by omega) (by decide) (by decide), zz_l48, nI_add, zz_ch (by omega)]
  | none =>
    rw [zz_on, if_pos rfl, zc_image c hc, zz_b, zc_placeIn hx p2 h4 hK h2, zz_b]
    cases g : zz_pn S (zz_i c) with
    | some b =>
      obtain ⟨hb, _, _⟩ := zz_fi_some g
      rw [zz_os, if_neg (zz_n1 (by omega))]
      rfl
    | none =>
      rw [zz_on, if_pos rfl, zc_stateOf hs hc, zz_b, zz_l1, zz_l2]
      by_cases q : S (7 + c) = 1
      · rw [if_pos (congrArg nI q)]
        show _ = some (nI (if S (7 + c) = 1 then 35 else if S (7 + c) = 2 then 39 else 46))
        rw [if_pos q]
        rfl
      · rw [if_neg (zz_ne q (by omega) (by decide))]
        show _ = some (nI (if S (7 + c) = 1 then 35 else if S (7 + c) = 2 then 39 else 46))
        rw [if_neg q]
        by_cases w : S (7 + c) = 2
        · rw [if_pos (congrArg nI w), if_pos w]
          rfl
        · rw [if_neg (zz_ne w (by omega) (by decide)), if_neg w]
          rfl
theorem zm_shown (hB : B ≤ 1000000) (ir : zz_Ir S) (ib : zz_Ib B S) (hM : zz_Pm S v) (hK : 10 ≤ K) {c : Nat} (hc : c < 81) : f_X13_shown K v (nI c) = some (nI (zz_sg S c)) := by
  have h4 := ib.2.1
  have hx : ∀ b, b < S 3 → zz_c S b < 81 := fun b hb => zz_Ib_c ib hb
  have hr := ir.2.2 c hc
  have hv3 : v 3 = nI (S 3) := hM 3 (by decide)
  refine zz_for0 (fun K' i (_ : Unit) => f_X13_shown_L2 K v (nI c) K' (nI i)) (S 3) (fun i _ => zz_fi (zz_pnp S c) i = none) (fun z => z = some (nI (zz_sg S c))) ?_ ?_ K () (by omega) rfl
  · intro k _ h
    show f_X13_shown_L2 K v (nI c) (k + 1) (nI (S 3)) = _
    have e : zz_pn S c = none := h
    have htk : zz_tk S 99 c = (match zz_pn S (zz_i c) with
        | some _ => true
        | none => false) := by
      cases g : zz_pn S (zz_i c) with
      | some b =>
        obtain ⟨hb, hb2, _⟩ := zz_fi_some g
        have := of_decide_eq_true hb2
        refine zz_an_y (n := b) (decide_eq_true ⟨by omega, Or.inr ?_⟩) hb
        rw [this, zz_i_i c hc]
      | none =>
        refine zz_an_f.mpr (fun b hb => decide_eq_false (fun q => ?_))
        rcases q.2 with q2 | q2
        · exact of_decide_eq_false (zz_fi_none e b hb) q2
        · refine of_decide_eq_false (zz_fi_none g b hb) ?_
          rw [← q2, zz_i_i _ (hx b hb)]
    rw [f_X13_shown_L2, hv3, if_pos (nI_le (Nat.le_refl _) (by omega)), zm_isTaken hM hx h4 hK hc zz_e99, zz_b, htk]
    unfold zz_sg
    rw [e]
    cases g : zz_pn S (zz_i c) with
    | some b =>
      rw [zz_Bt, if_neg (by decide)]
      rfl
    | none =>
      rw [zz_Bf, if_pos rfl, zz_l7, nI_add, zz_g (by omega) (by decide), nI_clamp (by omega), hM _ (by omega), zz_l1, zz_l2, zz_g (by omega) (by decide)]
      by_cases q : S (7 + c) = 1
      · rw [if_pos (congrArg nI q)]
        show _ = some (nI (if S (7 + c) = 1 then 35 else if S (7 + c) = 2 then 39 else 46))
        rw [if_pos q]
        rfl
      · rw [if_neg (zz_ne q (by omega) (by decide))]
        show _ = some (nI (if S (7 + c) = 1 then 35 else if S (7 + c) = 2 then 39 else 46))
        rw [if_neg q]
        by_cases w : S (7 + c) = 2
        · rw [if_pos (congrArg nI w), if_pos w]
          rfl
        · rw [if_neg (zz_ne w (by omega) (by decide)), if_neg w]
          rfl
  · intro k i _ hi h ih
    show f_X13_shown_L2 K v (nI c) (k + 1) (nI i) = _
    have h81 := hx i hi
    rw [f_X13_shown_L2, hv3, if_neg (nI_ge hi (by omega)), zm_where hM (by omega), zz_b, nI_1]
    by_cases e : zz_c S i = c
    · have hnb := (ib.2.2.2.2 i hi).2.2
      have hi1 := ib.1
      have hpn : zz_pn S c = some i := zz_fi_y h (decide_eq_true e) hi
      unfold zz_sg
      rw [hpn, if_pos (congrArg nI e), zm_of0, zz_b, zz_g (by omega) (by decide), nI_clamp (by omega), hM _ (by omega), zz_l10, pk_rem (by omega) (by decide) (by decide), zz_l48, nI_add]
    · rw [if_neg (zz_ne e (by omega) (by omega))]
      exact ih () (zz_fi_n h (decide_eq_false e))
theorem zp_descRow (hB : B ≤ 1000000) (ir : zz_Ir S) (ib : zz_Ib B S) (pr : zz_Pr S st ct br) (pb : zz_Pb S nu ce fa fc nx to re me) (hM : zz_Pm S v) (hK : 100 ≤ K) (ls ml : Nat → Int32) (ll mn : Int32) (y : Int32) : (f_X12_describeRow K st nu ce fc ls ll y = some (1, 0, ls, ll) ∧ f_X13_describeRow K v ml mn y = some (0, 1, ml, mn)) ∨ ∃ ls' ml', f_X12_describeRow K st nu ce fc ls ll y = some (0, nI 9, ls', nI 9) ∧ f_X13_describeRow K v ml mn y = some (nI 9, 0, ml', nI 9) ∧ zz_Ln 9 ls' ml' := by
  obtain ⟨p1, p2, p3, rfl, p5, p6, p7, p8⟩ := pb
  have e8 : (8 : Int32) = nI 9 - 1 := by decide
  rcases zm_isIn y (n := 9) (by decide) with ⟨h, h2⟩ | ⟨b, hb, rfl, h⟩
  · left
    constructor
    · rw [f_X12_describeRow, zz_l9]
      rcases h2 with h2 | h2
      · rw [if_pos h2.1]
      · rw [if_neg h2.1, if_neg h2.2.2.2]
    · rw [f_X13_describeRow, e8, h]
      rfl
  · right
    have hc : ∃ ls', f_X12_describeRow_L27 K st nu ce (nI (S 3)) (nI b) K (nI 0) ls (nI 0) = some (ls', nI 9) ∧ ∀ k, k < 9 → ls' k = nI (zz_sg S (b * 9 + k)) := by
      refine zz_for0 (fun K' i (r : (Nat → Int32) × Int32) => f_X12_describeRow_L27 K st nu ce (nI (S 3)) (nI b) K' (nI i) r.1 r.2) 9 (fun i r => r.2 = nI i ∧ ∀ k, k < i → r.1 k = nI (zz_sg S (b * 9 + k))) (fun z => ∃ ls', z = some (ls', nI 9) ∧ ∀ k, k < 9 → ls' k = nI (zz_sg S (b * 9 + k))) ?_ ?_ K (ls, nI 0) (by omega) ⟨rfl, fun k hk => by omega⟩
      · intro k r h
        refine ⟨r.1, ?_, h.2⟩
        show f_X12_describeRow_L27 K st nu ce (nI (S 3)) (nI b) (k + 1) (nI 9) r.1 r.2 = _
        rw [f_X12_describeRow_L27, if_pos (by decide), h.1]
      · intro k i r hi h ih
        have hsg := zz_sg_lt (S := S) (b * 9 + i)
        show ∃ ls', f_X12_describeRow_L27 K st nu ce (nI (S 3)) (nI b) (k + 1) (nI i) r.1 r.2 = some (ls', nI 9) ∧ _
        rw [f_X12_describeRow_L27, zz_l9, if_neg (nI_ge hi (by decide)), pk_mul, nI_add, zc_signOf hB ir ib pr.1 p1 p2 (by omega) (by omega), zz_b, h.1, zc_put (by omega) (by omega), zz_b, nI_1]
        refine ih (_, _) ⟨rfl, fun j hj => ?_⟩
        show upd r.1 i (nI (zz_sg S (b * 9 + i))) j = _
        rw [zz_upd]
        by_cases e : j = i
        · rw [if_pos e, e]
        · rw [if_neg e]; exact h.2 j (by omega)
    have hm : ∃ ml', f_X13_describeRow_L35 K v (nI b) K (nI 0) ml (nI 0) = some (ml', nI 9) ∧ ∀ k, k < 9 → ml' k = nI (zz_sg S (b * 9 + k)) := by
      refine zz_for0 (fun K' i (r : (Nat → Int32) × Int32) => f_X13_describeRow_L35 K v (nI b) K' (nI i) r.1 r.2) 9 (fun i r => r.2 = nI i ∧ ∀ k, k < i → r.1 k = nI (zz_sg S (b * 9 + k))) (fun z => ∃ ls', z = some (ls', nI 9) ∧ ∀ k, k < 9 → ls' k = nI (zz_sg S (b * 9 + k))) ?_ ?_ K (ml, nI 0) (by omega) ⟨rfl, fun k hk => by omega⟩
      · intro k r h
        refine ⟨r.1, ?_, h.2⟩
        show f_X13_describeRow_L35 K v (nI b) (k + 1) (nI 9) r.1 r.2 = _
        rw [f_X13_describeRow_L35, if_pos (by decide), h.1]
      · intro k i r hi h ih
        show ∃ ls', f_X13_describeRow_L35 K v (nI b) (k + 1) (nI i) r.1 r.2 = some (ls', nI 9) ∧ _
        rw [f_X13_describeRow_L35, zz_l9, if_neg (nI_ge hi (by decide)), f_X13_cell, zz_b, zz_l9, pk_mul, nI_add, show 9 * b + i = b * 9 + i by omega, zm_shown hB ir ib hM (by omega) (by omega), zz_b, h.1, zm_writes (by omega), zz_b, nI_1]
        refine ih (_, _) ⟨rfl, fun j hj => ?_⟩
        show upd r.1 i (nI (zz_sg S (b * 9 + i))) j = _
        rw [zz_upd]
        by_cases e : j = i
        · rw [if_pos e, e]
        · rw [if_neg e]; exact h.2 j (by omega)
    obtain ⟨ls', c1, c2⟩ := hc
    obtain ⟨ml', m1, m2⟩ := hm
    refine ⟨ls', ml', ?_, ?_, fun k hk => ⟨_, by have := zz_sg_lt (S := S) (b * 9 + k); omega, c2 k hk, m2 k hk⟩⟩
    · rw [f_X12_describeRow, zz_l9, if_neg (nI_pos (by omega)), if_pos (nI_lt hb (by decide)), f_X10_wipe, zz_b]
      show (f_X12_describeRow_L27 K st nu ce (nI (S 3)) (nI b) K (nI 0) ls (nI 0)).bind _ = _
      rw [c1]
      rfl
    · rw [f_X13_describeRow, e8, h, zz_b, if_neg (by decide)]
      show (f_X13_describeRow_L35 K v (nI b) K (nI 0) ml (nI 0)).bind _ = _
      rw [m1]
      rfl
/-- how many equal moves follow from a place on -/
def zz_rl (f : Nat → Nat) (n k : Nat) : Nat := (zz_fi (fun j => decide (f (k + j) ≠ f k)) (n - k)).getD (n - k)
theorem zz_rl_s {f : Nat → Nat} {n k : Nat} (hk : k < n) : 0 < zz_rl f n k ∧ k + zz_rl f n k ≤ n ∧ (∀ j, j < zz_rl f n k → f (k + j) = f k) ∧ (k + zz_rl f n k = n ∨ f (k + zz_rl f n k) ≠ f k) := by
  unfold zz_rl
  cases e : zz_fi (fun j => decide (f (k + j) ≠ f k)) (n - k) with
  | none =>
    show 0 < n - k ∧ k + (n - k) ≤ n ∧ (∀ j, j < n - k → f (k + j) = f k) ∧ (k + (n - k) = n ∨ _)
    refine ⟨by omega, by omega, fun j hj => ?_, Or.inl (by omega)⟩
    exact Decidable.not_not.mp (of_decide_eq_false (zz_fi_none e j hj))
  | some r =>
    obtain ⟨h1, h2, h3⟩ := zz_fi_some e
    have h2 : f (k + r) ≠ f k := of_decide_eq_true h2
    show 0 < r ∧ k + r ≤ n ∧ (∀ j, j < r → f (k + j) = f k) ∧ (k + r = n ∨ f (k + r) ≠ f k)
    refine ⟨?_, by omega, fun j hj => Decidable.not_not.mp (of_decide_eq_false (h3 j hj)), Or.inr h2⟩
    rcases Nat.eq_zero_or_pos r with q | q
    · rw [q] at h2
      exact absurd rfl h2
    · exact q
/-- what is written of a run of moves: the two sides -/
theorem zz_run {m r q : Nat} (hm : m < 4) (hr0 : 0 < r) (hr : r ≤ 20) (hq : q + 3 ≤ 40) (h : zz_Ln q ls ml) : ∃ ls' ml' q', ((f_X10_put ls (nI q) (nI (zz_L m))).bind fun q61 => (f_X10_putNumberAboveOne q61.2.1 q61.2.2 (nI r)).bind fun q67 => some (q67.1, q67.2)) = some (ls', nI q') ∧ (∀ {β : Type} (k : (Nat → Int32) → Int32 → Option β), ((f_X13_writes ml (nI q) (nI (zz_L m))).bind fun q100 => if nI r ≤ 9 then if nI r ≤ 1 then k q100.1 q100.2 else (f_X13_writes q100.1 q100.2 (48 + (nI r - nI r / 10 * 10))).bind fun q137 => k q137.1 q137.2 else (f_X13_writes q100.1 q100.2 (48 + (nI r / 10))).bind fun q119 => if nI r ≤ 1 then k q119.1 q119.2 else (f_X13_writes q119.1 q119.2 (48 + (nI r - nI r / 10 * 10))).bind fun q137 => k q137.1 q137.2) = k ml' (nI q')) ∧ q' ≤ q + r ∧ q' ≤ q + 3 ∧ zz_Ln q' ls' ml' := by
  have hL := zz_L_lt m hm
  have h1 := zz_Ln_u h (z := zz_L m) (by omega)
  rw [zc_put (by omega) (by omega), zz_b, zm_writes (by omega), f_X10_putNumberAboveOne, zz_l10, zz_l48, zz_l1, zz_l9, pk_rem (by omega) (by decide) (by decide), pk_div (by omega) (by decide) (by decide), nI_add, nI_add, zz_ch (by omega)]
  by_cases e1 : r ≤ 1
  · refine ⟨_, _, q + 1, ?_, ?_, by omega, by omega, h1⟩
    · rw [if_pos (nI_lt (by omega) (by decide)), if_pos (nI_le e1 (by decide))]
      rfl
    · intro β k
      rw [zz_b, if_pos (nI_le (by omega) (by decide)), if_pos (nI_le e1 (by decide))]
  · by_cases e2 : r ≤ 9
    · refine ⟨_, _, q + 2, ?_, ?_, by omega, by omega, zz_Ln_u h1 (z := 48 + r % 10) (by omega)⟩
      · rw [if_pos (nI_lt (by omega) (by decide)), if_neg (nI_ge (by omega) (by omega))]
        show (((f_X10_put (upd ls q (nI (zz_L m))) (nI (q + 1)) (nI (48 + r % 10))).bind _).bind _) = _
        rw [zc_put (by omega) (by omega)]
        rfl
      · intro β k
        rw [zz_b, if_pos (nI_le e2 (by decide)), if_neg (nI_ge (by omega) (by omega))]
        show ((f_X13_writes (upd ml q (nI (zz_L m))) (nI (q + 1)) (nI (48 + r % 10))).bind _) = _
        rw [zm_writes (by omega)]
        rfl
    · refine ⟨_, _, q + 3, ?_, ?_, by omega, by omega, zz_Ln_u (zz_Ln_u h1 (z := 48 + r / 10) (by omega)) (z := 48 + r % 10) (by omega)⟩
      · rw [if_neg (nI_nlt (by omega) (by omega)), pk_rem (by omega) (by decide) (by decide), nI_add, zz_ch (by omega), show r / 10 % 10 = r / 10 by omega]
        show (((f_X10_put (upd ls q (nI (zz_L m))) (nI (q + 1)) (nI (48 + r / 10))).bind _).bind _) = _
        rw [zc_put (by omega) (by omega), zz_b, if_neg (nI_ge (by omega) (by omega))]
        show (((f_X10_put (upd (upd ls q (nI (zz_L m))) (q + 1) (nI (48 + r / 10))) (nI (q + 1 + 1)) (nI (48 + r % 10))).bind _).bind _) = _
        rw [zc_put (by omega) (by omega)]
        rfl
      · intro β k
        rw [zz_b, if_neg (nI_ge (by omega) (by omega))]
        show ((f_X13_writes (upd ml q (nI (zz_L m))) (nI (q + 1)) (nI (48 + r / 10))).bind _) = _
        rw [zm_writes (by omega), zz_b, if_neg (nI_ge (by omega) (by omega))]
        show ((f_X13_writes (upd (upd ml q (nI (zz_L m))) (q + 1) (nI (48 + r / 10))) (nI (q + 1 + 1)) (nI (48 + r % 10))).bind _) = _
        rw [zm_writes (by omega)]
        rfl
theorem zc_runL {p n k r q : Nat} {f : Nat → Nat} (hp : p < 6) (hn : n ≤ 20) (hl : le p = nI n) (hmo : ∀ j, j < n → mo (p * 20 + j) = nI (f j)) (h4 : ∀ j, j < n → f j < 4) (hr0 : 0 < r) (hkr : k + r ≤ n) (he : ∀ j, j < r → f (k + j) = f k) : ∀ d i K, i + d + 1 = r → ∀ ls : Nat → Int32, f_X8_writeTo_L5 mo le (nI p) (K + d) (nI i) (nI (k + i)) ls (nI q) = f_X8_writeTo_L5 mo le (nI p) K (nI (r - 1)) (nI (k + (r - 1))) ls (nI q)
  | 0, i, K, hi, ls => by
    have : i = r - 1 := by omega
    subst this
    rfl
  | d + 1, i, K, hi, ls => by
    have ih := zc_runL (q := q) hp hn hl hmo h4 hr0 hkr he d (i + 1) K (by omega) ls
    rw [← ih, ← Nat.add_assoc, f_X8_writeTo_L5, zz_g hp (by decide), nI_clamp (by omega), hl, if_neg (nI_ge (by omega) (by omega)), zc_moveIn hp (by omega) (hmo _ (by omega)), zz_b, zz_g hp (by decide), nI_1, if_neg (zz_ne (by omega) (by omega) (by omega)), zc_moveIn hp (by omega) (hmo _ (by omega)), zz_b, nI_1, if_pos (by rw [show k + i + 1 = k + (i + 1) by omega, he (i + 1) (by omega), he i (by omega)])]
    rfl
theorem zm_runL {p n k r : Nat} (hM : zz_Pm S v) (hp : p < 6) (hn : n ≤ 20) (hl : S (104 + p) = n) (h4 : ∀ j, j < n → S (110 + 20 * p + j) < 4) (hkr : k + r ≤ n) (he : ∀ j, j < r → S (110 + 20 * p + (k + j)) = S (110 + 20 * p + k)) (hx : k + r = n ∨ S (110 + 20 * p + (k + r)) ≠ S (110 + 20 * p + k)) (hkn : k < n) (hK : 100 ≤ K) : f_X13_describePlan_L59 v (nI p) (nI (S (110 + 20 * p + k))) K (nI k) (nI 0) = some (nI (k + r), nI r) := by
  have h4k := h4 k hkn
  refine zz_for0 (fun K' i (_ : Unit) => f_X13_describePlan_L59 v (nI p) (nI (S (110 + 20 * p + k))) K' (nI (k + i)) (nI i)) r (fun _ _ => True) (fun z => z = some (nI (k + r), nI r)) ?_ ?_ K () (by omega) trivial
  · intro k' _ _
    show f_X13_describePlan_L59 v (nI p) (nI (S (110 + 20 * p + k))) (k' + 1) (nI (k + r)) (nI r) = _
    rw [f_X13_describePlan_L59, zz_l104, nI_add, zz_g (by omega) (by decide), nI_clamp (by omega), hM _ (by omega), hl]
    by_cases e : k + r = n
    · rw [if_pos (nI_le (by omega) (by omega))]
    · have := h4 (k + r) (by omega)
      have hne := hx.resolve_left e
      rw [if_neg (nI_ge (by omega) (by omega)), zm_at, zz_b, zz_g (by omega) (by decide), nI_clamp (by omega), hM _ (by omega), if_neg (zz_ne hne (by omega) (by omega))]
  · intro k' i _ hi _ ih
    show f_X13_describePlan_L59 v (nI p) (nI (S (110 + 20 * p + k))) (k' + 1) (nI (k + i)) (nI i) = _
    rw [f_X13_describePlan_L59, zz_l104, nI_add, zz_g (by omega) (by decide), nI_clamp (by omega), hM _ (by omega), hl, if_neg (nI_ge (by omega) (by omega)), zm_at, zz_b, zz_g (by omega) (by decide), nI_clamp (by omega), hM _ (by omega), he i hi, if_pos rfl, nI_1, nI_1]
    exact ih () trivial
theorem zp_descL {p n : Nat} (hM : zz_Pm S v) (hp : p < 6) (hn : n ≤ 20) (hl : le p = nI n) (hSl : S (104 + p) = n) (hmo : ∀ j, j < n → mo (p * 20 + j) = nI (S (110 + 20 * p + j))) (h4 : ∀ j, j < n → S (110 + 20 * p + j) < 4) (hK : 100 ≤ K) : ∀ m k q K1 K2 ls ml, n - k ≤ m → k ≤ n → q ≤ k → zz_Ln q ls ml → n - k < K1 → m < K2 → ∃ ls' ml' q', f_X8_writeTo_L5 mo le (nI p) K1 (nI 0) (nI k) ls (nI q) = some (ls', nI q') ∧ f_X13_describePlan_L32 K v (nI p) K2 (nI k) ml (nI q) = some (ml', nI q') ∧ q' ≤ n ∧ zz_Ln q' ls' ml' := by
  have hend : ∀ q K1 K2 ls ml, q ≤ n → zz_Ln q ls ml → 0 < K1 → 0 < K2 → ∃ ls' ml' q', f_X8_writeTo_L5 mo le (nI p) K1 (nI 0) (nI n) ls (nI q) = some (ls', nI q') ∧ f_X13_describePlan_L32 K v (nI p) K2 (nI n) ml (nI q) = some (ml', nI q') ∧ q' ≤ n ∧ zz_Ln q' ls' ml' := by
    intro q K1 K2 ls ml hq h h1 h2
    obtain ⟨K1, rfl, _⟩ := zz_k K1 0 h1
    obtain ⟨K2, rfl, _⟩ := zz_k K2 0 h2
    refine ⟨ls, ml, q, ?_, ?_, hq, h⟩
    · rw [f_X8_writeTo_L5, zz_g hp (by decide), nI_clamp (by omega), hl, if_pos (nI_le (Nat.le_refl _) (by omega))]
    · rw [f_X13_describePlan_L32, zz_l104, nI_add, zz_g (by omega) (by decide), nI_clamp (by omega), hM _ (by omega), hSl, if_pos (nI_le (Nat.le_refl _) (by omega))]
  intro m
  induction m with
  | zero =>
    intro k q K1 K2 ls ml hm hk hq h h1 h2
    have e : k = n := by omega
    subst e
    exact hend q K1 K2 ls ml hq h (by omega) (by omega)
  | succ m ih =>
    intro k q K1 K2 ls ml hm hk hq h h1 h2
    by_cases e : k = n
    · subst e
      exact hend q K1 K2 ls ml hq h (by omega) (by omega)
    · obtain ⟨r1, r2, r3, r4⟩ := zz_rl_s (f := fun j => S (110 + 20 * p + j)) (n := n) (k := k) (by omega)
      generalize zz_rl (fun j => S (110 + 20 * p + j)) n k = r at *
      have r3 : ∀ j, j < r → S (110 + 20 * p + (k + j)) = S (110 + 20 * p + k) := r3
      have r4 : k + r = n ∨ S (110 + 20 * p + (k + r)) ≠ S (110 + 20 * p + k) := r4
      have h4k := h4 k (by omega)
      obtain ⟨ls', ml', q', o1, o2, o3, o4, o5⟩ := zz_run h4k r1 (by omega) (by omega) h
      obtain ⟨K2, rfl, _⟩ := zz_k K2 (m + 1) h2
      obtain ⟨L, hL⟩ : ∃ L, K1 = L + 1 + (r - 1) := ⟨K1 - 1 - (r - 1), by omega⟩
      obtain ⟨lf, mf, qf, f1, f2, f3, f4⟩ := ih (k + r) q' L K2 ls' ml' (by omega) r2 (by omega) o5 (by omega) (by omega)
      refine ⟨lf, mf, qf, ?_, ?_, f3, f4⟩
      · have hrun := zc_runL (q := q) (k := k) hp hn hl hmo h4 r1 r2 r3 (r - 1) 0 (L + 1) (by omega) ls
        rw [hL]
        refine Eq.trans hrun ?_
        rw [f_X8_writeTo_L5, zz_g hp (by decide), nI_clamp (by omega), hl, if_neg (nI_ge (by omega) (by omega)), zc_moveIn hp (by omega) (hmo _ (by omega)), zz_b, r3 (r - 1) (by omega), zz_g hp (by decide), nI_1, nI_1, show r - 1 + 1 = r by omega, show k + (r - 1) + 1 = k + r by omega]
        have hout : ((f_X12_letter (nI (S (110 + 20 * p + k)))).bind fun q58 => (f_X10_put ls (nI q) q58).bind fun q61 => (f_X10_putNumberAboveOne q61.2.1 q61.2.2 (nI r)).bind fun q67 => f_X8_writeTo_L5 mo le (nI p) L 0 (nI (k + r)) q67.1 q67.2) = some (lf, nI qf) := by
          rw [zc_letter _ h4k, zz_b]
          cases e1 : f_X10_put ls (nI q) (nI (zz_L (S (110 + 20 * p + k)))) with
          | none => rw [e1] at o1; cases o1
          | some z =>
            rw [e1, zz_b] at o1
            rw [zz_b]
            cases e2 : f_X10_putNumberAboveOne z.2.1 z.2.2 (nI r) with
            | none => rw [e2] at o1; cases o1
            | some y =>
              rw [e2, zz_b] at o1
              rw [zz_b]
              have o1 := Option.some.inj o1
              have o11 : y.1 = ls' := congrArg Prod.fst o1
              have o12 : y.2 = nI q' := congrArg Prod.snd o1
              rw [o11, o12]
              exact f1
        by_cases e2 : k + r = n
        · rw [if_pos (congrArg nI e2)]
          exact hout
        · have := h4 (k + r) (by omega)
          rw [if_neg (zz_ne e2 (by omega) (by omega)), zc_moveIn hp (by omega) (hmo _ (by omega)), zz_b, if_neg (zz_ne (r4.resolve_left e2) (by omega) (by omega))]
          exact hout
      · rw [f_X13_describePlan_L32, zz_l104, nI_add, zz_g (by omega) (by decide), nI_clamp (by omega), hM _ (by omega), hSl, if_neg (nI_ge (by omega) (by omega)), zm_at, zz_b, zz_g (by omega) (by decide), nI_clamp (by omega), hM _ (by omega)]
        show ((f_X13_describePlan_L59 v (nI p) (nI (S (110 + 20 * p + k))) K (nI k) (nI 0)).bind _) = _
        rw [zm_runL hM hp hn hSl h4 r2 r3 r4 (by omega) hK, zz_b, zm_letter _ h4k, zz_b]
        refine Eq.trans (o2 (fun a b => f_X13_describePlan_L32 K v (nI p) K2 (nI (k + r)) a b)) f2
theorem zp_descPlan (ip : zz_Ip S) (pp : zz_Pp S mo le) (hM : zz_Pm S v) (hK : 100 ≤ K) (ls ml : Nat → Int32) (ll mn : Int32) (x : Int32) : (f_X12_describePlan K mo le ls ll x = some (1, 0, ls, ll) ∧ f_X13_describePlan K v ml mn x = some (0, 1, ml, mn)) ∨ ∃ ls' ml' q, q ≤ 20 ∧ f_X12_describePlan K mo le ls ll x = some (0, nI q, ls', nI q) ∧ f_X13_describePlan K v ml mn x = some (nI q, 0, ml', nI q) ∧ zz_Ln q ls' ml' := by
  rcases zz_plan x with ⟨h1, h2⟩ | ⟨p, hp, rfl, h1, h2⟩
  · left
    constructor
    · rw [f_X12_describePlan, zc_exPlan_n h1]
      rfl
    · rw [f_X13_describePlan, h2]
      rfl
  · right
    have hl := ip.1 p hp
    obtain ⟨ls', ml', q, c1, c2, c3, c4⟩ := zp_descL (mo := mo) (le := le) (K := K) hM hp hl (pp.1 p hp) rfl (fun j hj => pp.2 p j hp hj) (fun j hj => ip.2 p j hp hj) hK (S (104 + p)) 0 0 K K ls ml (by omega) (by omega) (by omega) (fun k hk => by omega) (by omega) (by omega)
    refine ⟨ls', ml', q, by omega, ?_, ?_, c4⟩
    · rw [f_X12_describePlan, zc_exPlan_y h1, zz_b, if_pos rfl, f_X10_wipe, zz_b, f_X8_writeTo]
      show (((f_X8_writeTo_L5 mo le (nI p) K (nI 0) (nI 0) ls (nI 0)).bind _).bind _) = _
      rw [c1]
      rfl
    · rw [f_X13_describePlan, h2, zz_b, if_neg (by decide)]
      show ((f_X13_describePlan_L32 K v (nI p) K (nI 0) ml (nI 0)).bind _) = _
      rw [c2]
      rfl
theorem zp_lineAt {n : Nat} (hn : n ≤ 40) (h : zz_Ln n ls ml) (x : Int32) : ∃ cc cv r e, f_X12_lineAt ls (nI n) x = some (cc, cv) ∧ f_X13_lineAt ml (nI n) x = some (r, e) ∧ ((cc = 0 ∧ e = 0 ∧ cv = r) ∨ (cc = 1 ∧ e = 1)) := by
  rcases zm_isIn x (n := n) (by omega) with ⟨h1, h2⟩ | ⟨k, hk, rfl, h1⟩
  · refine ⟨1, 0, 97, 1, ?_, ?_, Or.inr ⟨rfl, rfl⟩⟩
    · rw [f_X12_lineAt]
      rcases h2 with h2 | h2
      · rw [if_pos h2.1]
      · rw [if_neg h2.1, if_neg h2.2.2.2]
    · rw [f_X13_lineAt, h1]
      rfl
  · obtain ⟨z, z1, z2, z3⟩ := h k hk
    refine ⟨0, nI z, nI z, 0, ?_, ?_, Or.inl ⟨rfl, rfl, rfl⟩⟩
    · rw [f_X12_lineAt, if_neg (nI_pos (by omega)), if_pos (nI_lt hk (by omega)), f_X10_signAt, if_neg (nI_pos (by omega)), if_neg (nI_ge hk (by omega)), zz_g (by omega) (by decide), nI_clamp (by omega), z2, zz_d (zz_vc z1), zz_b, zz_d (zz_vc z1)]
    · rw [f_X13_lineAt, h1, zz_b, if_neg (by decide), zz_g (by omega) (by decide), nI_clamp (by omega), z3, zz_ch z1]
end ZLI
