-- the two shares: no number is lost
def zz_np (n : Nat) : Prop := n < 18446744073709551616 ∧ (n / 4503599627370496 % 2048 = 2047 → n % 4503599627370496 = 0)
theorem zz_k1 : FP.Core.b64.tails = 4503599627370496 := by decide
theorem zz_k2 : FP.Core.b64.exps = 2048 := by decide
theorem zz_k3 : FP.Core.b64.qmin = -1074 := by decide
theorem zz_k4 : FP.Core.b64.qmax = 971 := by decide
theorem zz_k5 : 2 ^ FP.Core.b64.p = 9007199254740992 := by decide
theorem zz_np_fin (s : Bool) {c : Nat} {q : Int} (hc : c < 9007199254740992) (hq : q ≤ 971) : zz_np (FP.Core.encode FP.Core.b64 (.fin s c q)) := by
  show zz_np (if c < FP.Core.b64.tails then FP.Core.assemble FP.Core.b64 s 0 c else FP.Core.assemble FP.Core.b64 s ((q - FP.Core.b64.qmin).toNat + 1) (c - FP.Core.b64.tails))
  unfold FP.Core.assemble zz_np
  rw [zz_k1, zz_k2, zz_k3]
  have hs : s.toNat ≤ 1 := by cases s <;> decide
  generalize s.toNat = t at *
  split <;> omega
theorem zz_np_inf (s : Bool) : zz_np (FP.Core.encode FP.Core.b64 (.inf s)) := by
  show zz_np (FP.Core.assemble FP.Core.b64 s (FP.Core.b64.exps - 1) 0)
  unfold FP.Core.assemble zz_np
  rw [zz_k1, zz_k2]
  cases s <;> decide
theorem zz_np_bound (s : Bool) {c : Nat} {q : Int} (hc : c < 9007199254740992) : zz_np (FP.Core.encode FP.Core.b64 (FP.Core.bound FP.Core.b64 s c q)) := by
  unfold FP.Core.bound
  rw [zz_k4]
  split
  · exact zz_np_fin s hc (by assumption)
  · exact zz_np_inf s
theorem zz_np_round (s : Bool) (num den : Nat) (e : Int) : zz_np (FP.Core.encode FP.Core.b64 (FP.Core.roundRatio FP.Core.b64 s num den e)) := by
  unfold FP.Core.roundRatio
  split
  · rw [zz_k3]
    exact zz_np_fin s (by decide) (by decide)
  · unfold FP.Core.roundAt FP.Core.settle
    rw [zz_k5]
    split
    · exact zz_np_bound s (by assumption)
    · rw [zz_k1]
      exact zz_np_bound s (by decide)
theorem zz_np_dec {n : Nat} (h : zz_np n) : FP.Core.decode FP.Core.b64 n ≠ .nan := by
  unfold FP.Core.decode FP.Core.fieldE FP.Core.fieldT
  rw [zz_k1, zz_k2]
  split
  · rename_i e
    rw [if_pos (h.2 e)]
    intro q
    cases q
  · split
    · intro q
      cases q
    · intro q
      cases q
theorem zz_np_n {n : Nat} (h : zz_np n) : (UInt64.ofNat n).toNat = n := Nat.mod_eq_of_lt h.1
theorem zz_i2d (x : Int32) : zz_np (FP.i2d x).toNat := by
  have h : zz_np (FP.Core.fromInt FP.Core.b64 x.toInt) := zz_np_round _ _ _ _
  show zz_np (UInt64.ofNat (FP.Core.fromInt FP.Core.b64 x.toInt)).toNat
  rw [zz_np_n h]
  exact h
theorem zz_den : ∀ b, b < 5 → 0 < b → (match FP.Core.decode FP.Core.b64 (FP.i2d (nI b)).toNat with
    | .fin _ c _ => decide (c ≠ 0)
    | _ => false) = true := by decide +kernel
theorem zz_ddiv (x : Int32) {b : Nat} (hb : b < 5) (h0 : 0 < b) : zz_np (FP.ddiv (FP.i2d x) (FP.i2d (nI b))).toNat := by
  have h1 := zz_np_dec (zz_i2d x)
  have h2 := zz_den b hb h0
  have h : zz_np (FP.Core.div FP.Core.b64 (FP.i2d x).toNat (FP.i2d (nI b)).toNat) := by
    unfold FP.Core.div
    generalize FP.Core.decode FP.Core.b64 (FP.i2d (nI b)).toNat = d at *
    generalize FP.Core.decode FP.Core.b64 (FP.i2d x).toNat = c at *
    cases d with
    | nan => cases h2
    | inf s => cases h2
    | fin t d r =>
      have h3 : d ≠ 0 := of_decide_eq_true h2
      cases c with
      | nan => exact absurd rfl h1
      | inf s => exact zz_np_inf _
      | fin s c q =>
        show zz_np (FP.Core.encode FP.Core.b64 (if d = 0 then (if c = 0 then .nan else .inf (s != t)) else FP.Core.roundRatio FP.Core.b64 (s != t) c d (q - r)))
        rw [if_neg h3]
        exact zz_np_round _ _ _ _
  show zz_np (UInt64.ofNat (FP.Core.div FP.Core.b64 (FP.i2d x).toNat (FP.i2d (nI b)).toNat)).toNat
  rw [zz_np_n h]
  exact h
theorem zz_np_mask {x : UInt64} (h : zz_np x.toNat) : x &&& 0x7fffffffffffffff ≤ 0x7ff0000000000000 := by
  rw [UInt64.le_iff_toNat_le, UInt64.toNat_and]
  show x.toNat &&& (2 ^ 63 - 1) ≤ 0x7ff0000000000000
  rw [Nat.and_two_pow_sub_one_eq_mod]
  obtain ⟨h1, h2⟩ := h
  generalize x.toNat = n at *
  omega
theorem zz_cmp_self (z : Int) : compare z z = .eq := by
  show (if z < z then Ordering.lt else if z = z then Ordering.eq else Ordering.gt) = .eq
  rw [if_neg (Int.lt_irrefl z), if_pos rfl]
theorem zz_np_cmp {x : UInt64} (h : zz_np x.toNat) : Op.cmpValue (FP.dcmp x x) .l = 0 := by
  have h1 := zz_np_dec h
  have h2 : FP.dcmp x x = some .eq := by
    show FP.Core.order (FP.Core.decode FP.Core.b64 x.toNat) (FP.Core.decode FP.Core.b64 x.toNat) = some .eq
    generalize FP.Core.decode FP.Core.b64 x.toNat = d at *
    cases d with
    | nan => exact absurd rfl h1
    | inf s => exact congrArg some (zz_cmp_self _)
    | fin s c q => exact congrArg some (zz_cmp_self _)
  rw [h2]
  rfl
theorem zz_share : ∀ n, n < 82 → (FP.fdiv (FP.i2f (nI n)) 1117913088) &&& 0x7fffffff ≤ 0x7f800000 ∧ (FP.f2d (FP.fdiv (FP.i2f (nI n)) 1117913088)) &&& 0x7fffffffffffffff ≤ 0x7ff0000000000000 ∧ Op.cmpValue (FP.dcmp (FP.f2d (FP.fdiv (FP.i2f (nI n)) 1117913088)) (FP.f2d (FP.fdiv (FP.i2f (nI n)) 1117913088))) .l = 0 := by decide +kernel
