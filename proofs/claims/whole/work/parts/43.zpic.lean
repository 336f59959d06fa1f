/-- the pictures of the two sides, and what always holds -/
def zz_cn (S : Nat → Nat) : Nat := zz_sm (fun c => if S (7 + c) = 0 then 0 else 1) 81
def zz_br (S : Nat → Nat) : Nat := zz_sm (fun c => if S (7 + c) = 2 then 1 else 0) 81
def zz_fs (S : Nat → Nat) : Nat := zz_sm (fun b => S (91 + 4 * b)) (S 3)
def zz_Ir (S : Nat → Nat) : Prop := S 0 = zz_cn S ∧ S 0 ≤ 30 ∧ ∀ c, c < 81 → S (7 + c) < 3
def zz_Ib (B : Nat) (S : Nat → Nat) : Prop := S 2 ≤ B ∧ S 3 ≤ 4 ∧ zz_fs S + S 5 ≤ 21 * B ∧ S 6 ≤ 20 * B ∧ ∀ b, b < S 3 → S (89 + 4 * b) < 9 ∧ S (90 + 4 * b) < 9 ∧ S (88 + 4 * b) ≤ B
def zz_Io (S : Nat → Nat) : Prop := ∀ b, b < S 3 → zz_op S (zz_c S b) = true
def zz_Ip (S : Nat → Nat) : Prop := (∀ p, p < 6 → S (104 + p) ≤ 20) ∧ ∀ p k, p < 6 → k < S (104 + p) → S (110 + 20 * p + k) < 4
def zz_Il (S : Nat → Nat) : Prop := S 4 ≤ 8 ∧ ∀ l, l < S 4 → S (230 + l) < 81
def zz_If (S : Nat → Nat) : Prop := S 1 ≤ 2
def zz_Inv (B : Nat) (S : Nat → Nat) : Prop := zz_Ir S ∧ zz_Ib B S ∧ zz_Io S ∧ zz_Ip S ∧ zz_Il S ∧ zz_If S
def zz_Pr (S : Nat → Nat) (st : Nat → Int32) (ct br : Int32) : Prop := (∀ c, c < 81 → st c = nI (S (7 + c))) ∧ ct = nI (S 0) ∧ br = nI (zz_br S)
def zz_Pb (S : Nat → Nat) (nu ce fa : Nat → Int32) (fc nx to re me : Int32) : Prop := (∀ b, b < S 3 → nu b = nI (S (88 + 4 * b))) ∧ (∀ b, b < S 3 → ce b = nI (zz_c S b)) ∧ (∀ b, b < S 3 → fa b = nI (S (91 + 4 * b))) ∧ fc = nI (S 3) ∧ nx = nI (S 2) ∧ to = nI (zz_fs S + S 5) ∧ re = nI (S 5) ∧ me = nI (S 6)
def zz_Pp (S : Nat → Nat) (mo le : Nat → Int32) : Prop := (∀ p, p < 6 → le p = nI (S (104 + p))) ∧ ∀ p k, p < 6 → k < S (104 + p) → mo (p * 20 + k) = nI (S (110 + 20 * p + k))
def zz_Pl (S : Nat → Nat) (lc : Nat → Int32) (ln : Int32) : Prop := ln = nI (S 4) ∧ ∀ l, l < S 4 → lc l = nI (S (230 + l))
def zz_Pf (S : Nat → Nat) (fg : Int32) : Prop := fg = nI (S 1)
def zz_Pc (S : Nat → Nat) (M : mm_MV) : Prop := zz_Pr S M.1 M.2.1 M.2.2.1 ∧ zz_Pb S M.2.2.2.1 M.2.2.2.2.1 M.2.2.2.2.2.1 M.2.2.2.2.2.2.1 M.2.2.2.2.2.2.2.1 M.2.2.2.2.2.2.2.2.1 M.2.2.2.2.2.2.2.2.2.1 M.2.2.2.2.2.2.2.2.2.2.1 ∧ zz_Pp S M.2.2.2.2.2.2.2.2.2.2.2.1 M.2.2.2.2.2.2.2.2.2.2.2.2.1 ∧ zz_Pl S M.2.2.2.2.2.2.2.2.2.2.2.2.2.1 M.2.2.2.2.2.2.2.2.2.2.2.2.2.2.1 ∧ zz_Pf S M.2.2.2.2.2.2.2.2.2.2.2.2.2.2.2
/-- two rows that agree on the reeds' part, and so on -/
def zz_Er (S T : Nat → Nat) : Prop := T 0 = S 0 ∧ ∀ k, k < 81 → T (7 + k) = S (7 + k)
def zz_Eb (S T : Nat → Nat) : Prop := T 2 = S 2 ∧ T 3 = S 3 ∧ T 5 = S 5 ∧ T 6 = S 6 ∧ ∀ k, k < 16 → T (88 + k) = S (88 + k)
def zz_Ep (S T : Nat → Nat) : Prop := ∀ k, k < 126 → T (104 + k) = S (104 + k)
def zz_El (S T : Nat → Nat) : Prop := T 4 = S 4 ∧ ∀ k, k < 8 → T (230 + k) = S (230 + k)
def zz_Ef (S T : Nat → Nat) : Prop := T 1 = S 1
section ZE
variable {S T : Nat → Nat} {B : Nat}
theorem zz_Er_st (h : zz_Er S T) : zz_cn T = zz_cn S ∧ zz_br T = zz_br S := by
  constructor
  · exact zz_sm_c (fun j hj => by rw [h.2 j hj])
  · exact zz_sm_c (fun j hj => by rw [h.2 j hj])
theorem zz_Er_op (h : zz_Er S T) {c : Nat} (hc : c < 81) : zz_op T c = zz_op S c := by
  unfold zz_op
  rw [h.2 c hc, h.2 _ (zz_i_lt c hc)]
theorem zz_Er_I (h : zz_Er S T) (i : zz_Ir S) : zz_Ir T := by
  obtain ⟨i1, i2, i3⟩ := i
  refine ⟨by rw [h.1, (zz_Er_st h).1, i1], by rw [h.1]; exact i2, fun c hc => by rw [h.2 c hc]; exact i3 c hc⟩
theorem zz_Er_P {st : Nat → Int32} {ct br : Int32} (h : zz_Er S T) (p : zz_Pr S st ct br) : zz_Pr T st ct br := by
  obtain ⟨i1, i2, i3⟩ := p
  refine ⟨fun c hc => by rw [h.2 c hc]; exact i1 c hc, by rw [h.1]; exact i2, by rw [(zz_Er_st h).2]; exact i3⟩
theorem zz_Eb_c (h : zz_Eb S T) {b : Nat} (hb : b < 4) : T (88 + 4 * b) = S (88 + 4 * b) ∧ T (89 + 4 * b) = S (89 + 4 * b) ∧ T (90 + 4 * b) = S (90 + 4 * b) ∧ T (91 + 4 * b) = S (91 + 4 * b) ∧ zz_c T b = zz_c S b := by
  have h1 := h.2.2.2.2 (4 * b) (by omega)
  have h2 := h.2.2.2.2 (4 * b + 1) (by omega)
  have h3 := h.2.2.2.2 (4 * b + 2) (by omega)
  have h4 := h.2.2.2.2 (4 * b + 3) (by omega)
  rw [show 88 + (4 * b + 1) = 89 + 4 * b by omega] at h2
  rw [show 88 + (4 * b + 2) = 90 + 4 * b by omega] at h3
  rw [show 88 + (4 * b + 3) = 91 + 4 * b by omega] at h4
  exact ⟨h1, h2, h3, h4, by unfold zz_c; rw [h2, h3]⟩
theorem zz_Eb_fs (h : zz_Eb S T) (h4 : S 3 ≤ 4) : zz_fs T = zz_fs S := by
  unfold zz_fs
  rw [h.2.1]
  exact zz_sm_c (fun j hj => (zz_Eb_c h (by omega)).2.2.2.1)
theorem zz_Eb_I (h : zz_Eb S T) {C : Nat} (hB : B ≤ C) (i : zz_Ib B S) : zz_Ib C T := by
  obtain ⟨i1, i2, i3, i4, i5⟩ := i
  refine ⟨by rw [h.1]; omega, by rw [h.2.1]; exact i2, by rw [zz_Eb_fs h i2, h.2.2.1]; omega, by rw [h.2.2.2.1]; omega, fun b hb => ?_⟩
  rw [h.2.1] at hb
  obtain ⟨e1, e2, e3, e4, e5⟩ := zz_Eb_c h (b := b) (by omega)
  rw [e1, e2, e3]
  have := i5 b hb
  omega
theorem zz_Eb_P {nu ce fa : Nat → Int32} {fc nx to re me : Int32} (h : zz_Eb S T) (h4 : S 3 ≤ 4) (p : zz_Pb S nu ce fa fc nx to re me) : zz_Pb T nu ce fa fc nx to re me := by
  obtain ⟨p1, p2, p3, p4, p5, p6, p7, p8⟩ := p
  refine ⟨fun b hb => ?_, fun b hb => ?_, fun b hb => ?_, by rw [h.2.1]; exact p4, by rw [h.1]; exact p5, by rw [zz_Eb_fs h h4, h.2.2.1]; exact p6, by rw [h.2.2.1]; exact p7, by rw [h.2.2.2.1]; exact p8⟩
  · rw [h.2.1] at hb
    rw [(zz_Eb_c h (by omega)).1]
    exact p1 b hb
  · rw [h.2.1] at hb
    rw [(zz_Eb_c h (by omega)).2.2.2.2]
    exact p2 b hb
  · rw [h.2.1] at hb
    rw [(zz_Eb_c h (by omega)).2.2.2.1]
    exact p3 b hb
theorem zz_Ib_c (i : zz_Ib B S) {b : Nat} (hb : b < S 3) : zz_c S b < 81 := by
  have := i.2.2.2.2 b hb
  unfold zz_c
  omega
theorem zz_Ib_4 (i : zz_Ib B S) {b : Nat} (hb : b < S 3) : b < 4 := by
  have := i.2.1
  omega
theorem zz_Io_E (hr : zz_Er S T) (hb : zz_Eb S T) (i : zz_Ib B S) (o : zz_Io S) : zz_Io T := by
  intro b hb2
  rw [hb.2.1] at hb2
  rw [(zz_Eb_c hb (zz_Ib_4 i hb2)).2.2.2.2, zz_Er_op hr (zz_Ib_c i hb2)]
  exact o b hb2
theorem zz_Ep_x (h : zz_Ep S T) {p : Nat} (hp : p < 6) : T (104 + p) = S (104 + p) := h p (by omega)
theorem zz_Ep_m (h : zz_Ep S T) {p k : Nat} (hp : p < 6) (hk : k < 20) : T (110 + 20 * p + k) = S (110 + 20 * p + k) := by
  have := h (6 + 20 * p + k) (by omega)
  rw [show 104 + (6 + 20 * p + k) = 110 + 20 * p + k by omega] at this
  exact this
theorem zz_Ep_I (h : zz_Ep S T) (i : zz_Ip S) : zz_Ip T := by
  obtain ⟨i1, i2⟩ := i
  refine ⟨fun p hp => by rw [zz_Ep_x h hp]; exact i1 p hp, fun p k hp hk => ?_⟩
  rw [zz_Ep_x h hp] at hk
  have := i1 p hp
  rw [zz_Ep_m h hp (by omega)]
  exact i2 p k hp hk
theorem zz_Ep_P {mo le : Nat → Int32} (h : zz_Ep S T) (i : zz_Ip S) (p : zz_Pp S mo le) : zz_Pp T mo le := by
  obtain ⟨p1, p2⟩ := p
  refine ⟨fun p hp => by rw [zz_Ep_x h hp]; exact p1 p hp, fun p k hp hk => ?_⟩
  rw [zz_Ep_x h hp] at hk
  have := i.1 p hp
  rw [zz_Ep_m h hp (by omega)]
  exact p2 p k hp hk
theorem zz_El_I (h : zz_El S T) (i : zz_Il S) : zz_Il T := by
  obtain ⟨i1, i2⟩ := i
  refine ⟨by rw [h.1]; exact i1, fun l hl => ?_⟩
  rw [h.1] at hl
  rw [h.2 l (by omega)]
  exact i2 l hl
theorem zz_El_P {lc : Nat → Int32} {ln : Int32} (h : zz_El S T) (i : zz_Il S) (p : zz_Pl S lc ln) : zz_Pl T lc ln := by
  obtain ⟨p1, p2⟩ := p
  have := i.1
  refine ⟨by rw [h.1]; exact p1, fun l hl => ?_⟩
  rw [h.1] at hl
  rw [h.2 l (by omega)]
  exact p2 l hl
theorem zz_Ef_I (h : zz_Ef S T) (i : zz_If S) : zz_If T := by
  unfold zz_If
  rw [h]
  exact i
theorem zz_Ef_P {fg : Int32} (h : zz_Ef S T) (p : zz_Pf S fg) : zz_Pf T fg := by
  unfold zz_Pf
  rw [h]
  exact p
theorem zz_Ib_m {C : Nat} (hB : B ≤ C) (i : zz_Ib B S) : zz_Ib C S := zz_Eb_I ⟨rfl, rfl, rfl, rfl, fun _ _ => rfl⟩ hB i
theorem zz_Inv_m {C : Nat} (hB : B ≤ C) (i : zz_Inv B S) : zz_Inv C S := ⟨i.1, zz_Ib_m hB i.2.1, i.2.2⟩
theorem zz_Pm_u {v : Nat → Int32} (h : zz_Pm S v) (k x : Nat) : zz_Pm (zz_u S k x) (upd v k (nI x)) := by
  intro j hj
  rw [zz_uv, zz_upd]
  by_cases e : j = k
  · rw [if_pos e, if_pos e]
  · rw [if_neg e, if_neg e]
    exact h j hj
end ZE
