/-- the pure level: what the two sides' functions give, in natural numbers -/
theorem zz_b {α β : Type} (a : α) (f : α → Option β) : (some a).bind f = f a := rfl
theorem zz_g {α : Type} {a n : Nat} {x : Option α} (h : a < n) (hn : n < 2 ^ 31) : mm_g (mm_ck (nI a) n) x = x := if_pos (decide_eq_true (nI_in h hn))
theorem zz_d {α : Type} {p : Prop} [Decidable p] {x : Option α} (h : p) : mm_g (decide p) x = x := if_pos (decide_eq_true h)
theorem zz_vc {q : Nat} (h : q < 65536) : vp_nar .char (nI q) = nI q := by
  unfold vp_nar
  rw [(pk_charN h).1]
theorem zz_ch {q : Nat} (h : q < 65536) : ((nI q).toUInt32 % 65536).toInt32 = nI q := by
  rw [pk_char, pk_tn (by omega), Nat.mod_eq_of_lt h]
theorem zz_m1 {a k : Nat} (h : a < 2 ^ 31) (h0 : 0 < k) (hk : k < 2 ^ 31) : ¬ nI a = -nI k := by
  intro e
  have e2 := congrArg Int32.toInt e
  rw [nI_toInt h, sb_negT hk] at e2
  omega
theorem zz_nn {a b : Nat} (ha : a < 2 ^ 31) (hb : b < 2 ^ 31) : -nI a = -nI b ↔ a = b := by
  constructor
  · intro e
    have e2 := congrArg Int32.toInt e
    rw [sb_negT ha, sb_negT hb] at e2
    omega
  · intro e
    rw [e]
/-- an index or none -/
def zz_o : Option Nat → Int32
  | none => -1
  | some n => nI n
def zz_B : Bool → Int32
  | true => 1
  | false => 0
theorem zz_Bt : zz_B true = 1 := rfl
theorem zz_Bf : zz_B false = 0 := rfl
theorem zz_upd {f : Nat → Int32} {k : Nat} {x : Int32} (j : Nat) : upd f k x j = if j = k then x else f j := rfl
theorem zz_l0 : (0 : Int32) = nI 0 := rfl
theorem zz_l1 : (1 : Int32) = nI 1 := rfl
theorem zz_l2 : (2 : Int32) = nI 2 := rfl
theorem zz_l3 : (3 : Int32) = nI 3 := rfl
theorem zz_l4 : (4 : Int32) = nI 4 := rfl
theorem zz_l5 : (5 : Int32) = nI 5 := rfl
theorem zz_l6 : (6 : Int32) = nI 6 := rfl
theorem zz_l7 : (7 : Int32) = nI 7 := rfl
theorem zz_l8 : (8 : Int32) = nI 8 := rfl
theorem zz_l9 : (9 : Int32) = nI 9 := rfl
theorem zz_l10 : (10 : Int32) = nI 10 := rfl
theorem zz_l11 : (11 : Int32) = nI 11 := rfl
theorem zz_l12 : (12 : Int32) = nI 12 := rfl
theorem zz_l16 : (16 : Int32) = nI 16 := rfl
theorem zz_l20 : (20 : Int32) = nI 20 := rfl
theorem zz_l30 : (30 : Int32) = nI 30 := rfl
theorem zz_l31 : (31 : Int32) = nI 31 := rfl
theorem zz_l32 : (32 : Int32) = nI 32 := rfl
theorem zz_l35 : (35 : Int32) = nI 35 := rfl
theorem zz_l39 : (39 : Int32) = nI 39 := rfl
theorem zz_l46 : (46 : Int32) = nI 46 := rfl
theorem zz_l48 : (48 : Int32) = nI 48 := rfl
theorem zz_l50 : (50 : Int32) = nI 50 := rfl
theorem zz_l57 : (57 : Int32) = nI 57 := rfl
theorem zz_l59 : (59 : Int32) = nI 59 := rfl
theorem zz_l60 : (60 : Int32) = nI 60 := rfl
theorem zz_l61 : (61 : Int32) = nI 61 := rfl
theorem zz_l62 : (62 : Int32) = nI 62 := rfl
theorem zz_l68 : (68 : Int32) = nI 68 := rfl
theorem zz_l76 : (76 : Int32) = nI 76 := rfl
theorem zz_l81 : (81 : Int32) = nI 81 := rfl
theorem zz_l82 : (82 : Int32) = nI 82 := rfl
theorem zz_l85 : (85 : Int32) = nI 85 := rfl
theorem zz_l88 : (88 : Int32) = nI 88 := rfl
theorem zz_l97 : (97 : Int32) = nI 97 := rfl
theorem zz_l104 : (104 : Int32) = nI 104 := rfl
theorem zz_l110 : (110 : Int32) = nI 110 := rfl
theorem zz_l120 : (120 : Int32) = nI 120 := rfl
theorem zz_l126 : (126 : Int32) = nI 126 := rfl
theorem zz_l230 : (230 : Int32) = nI 230 := rfl
theorem zz_l238 : (238 : Int32) = nI 238 := rfl
theorem zz_l256 : (256 : Int32) = nI 256 := rfl
theorem zz_l325 : (325 : Int32) = nI 325 := rfl
theorem zz_l1666 : (1666 : Int32) = nI 1666 := rfl
theorem zz_l1904 : (1904 : Int32) = nI 1904 := rfl
theorem zz_l100000 : (100000 : Int32) = nI 100000 := rfl
theorem zz_l1000000 : (1000000 : Int32) = nI 1000000 := rfl
/-- the least index below n that p holds of -/
def zz_fi (p : Nat → Bool) : Nat → Option Nat
  | 0 => none
  | n + 1 => match zz_fi p n with
    | some b => some b
    | none => if p n = true then some n else none
theorem zz_fi_s {p : Nat → Bool} {i b : Nat} (h : zz_fi p i = some b) : ∀ n, i ≤ n → zz_fi p n = some b := by
  intro n hn
  induction n with
  | zero => 
    have : i = 0 := by omega
    subst this
    exact h
  | succ n ih =>
    by_cases e : i = n + 1
    · subst e
      exact h
    · unfold zz_fi
      rw [ih (by omega)]
theorem zz_fi_n {p : Nat → Bool} {n : Nat} (h : zz_fi p n = none) (hp : p n = false) : zz_fi p (n + 1) = none := by
  unfold zz_fi
  rw [h]
  simp only [hp]
  rfl
theorem zz_fi_y {p : Nat → Bool} {n m : Nat} (h : zz_fi p n = none) (hp : p n = true) (hm : n < m) : zz_fi p m = some n := by
  refine zz_fi_s (i := n + 1) ?_ m hm
  unfold zz_fi
  rw [h]
  simp only [hp]
  rfl
theorem zz_fi_0 (p : Nat → Bool) : zz_fi p 0 = none := rfl
theorem zz_fi_none {p : Nat → Bool} : ∀ {n : Nat}, zz_fi p n = none → ∀ j, j < n → p j = false
  | 0, _, j, hj => by omega
  | n + 1, h, j, hj => by
    unfold zz_fi at h
    cases e : zz_fi p n with
    | some c =>
      rw [e] at h
      cases h
    | none =>
      rw [e] at h
      have h : (if p n = true then some n else none) = none := h
      by_cases hp : p n = true
      · rw [if_pos hp] at h
        cases h
      · by_cases hj2 : j = n
        · subst hj2
          exact Bool.eq_false_iff.mpr hp
        · exact zz_fi_none e j (by omega)
theorem zz_fi_some {p : Nat → Bool} : ∀ {n b : Nat}, zz_fi p n = some b → b < n ∧ p b = true ∧ ∀ j, j < b → p j = false
  | 0, b, h => by cases h
  | n + 1, b, h => by
    unfold zz_fi at h
    cases e : zz_fi p n with
    | some c =>
      rw [e] at h
      have h : some c = some b := h
      cases h
      obtain ⟨h1, h2, h3⟩ := zz_fi_some e
      exact ⟨by omega, h2, h3⟩
    | none =>
      rw [e] at h
      have h : (if p n = true then some n else none) = some b := h
      by_cases hp : p n = true
      · rw [if_pos hp] at h
        cases h
        refine ⟨by omega, hp, ?_⟩
        intro j hj
        exact zz_fi_none e j hj
      · rw [if_neg hp] at h
        cases h
theorem zz_fi_c {p q : Nat → Bool} : ∀ {n : Nat}, (∀ j, j < n → p j = q j) → zz_fi p n = zz_fi q n
  | 0, _ => rfl
  | n + 1, h => by
    unfold zz_fi
    rw [zz_fi_c (n := n) (fun j hj => h j (by omega)), h n (by omega)]
/-- whether p holds of some index below n -/
def zz_an (p : Nat → Bool) : Nat → Bool
  | 0 => false
  | n + 1 => zz_an p n || p n
theorem zz_an_t {p : Nat → Bool} : ∀ {n : Nat}, zz_an p n = true ↔ ∃ j, j < n ∧ p j = true
  | 0 => ⟨fun h => (by cases h), fun ⟨j, h, _⟩ => absurd h (Nat.not_lt_zero j)⟩
  | n + 1 => by
    unfold zz_an
    rw [Bool.or_eq_true, zz_an_t]
    constructor
    · rintro (⟨j, h1, h2⟩ | h)
      · exact ⟨j, by omega, h2⟩
      · exact ⟨n, by omega, h⟩
    · rintro ⟨j, h1, h2⟩
      by_cases e : j = n
      · subst e
        exact Or.inr h2
      · exact Or.inl ⟨j, by omega, h2⟩
theorem zz_an_f {p : Nat → Bool} {n : Nat} : zz_an p n = false ↔ ∀ j, j < n → p j = false := by
  constructor
  · intro h j hj
    cases e : p j with
    | false => rfl
    | true => rw [zz_an_t.mpr ⟨j, hj, e⟩] at h; cases h
  · intro h
    cases e : zz_an p n with
    | false => rfl
    | true =>
      obtain ⟨j, h1, h2⟩ := zz_an_t.mp e
      rw [h j h1] at h2
      cases h2
theorem zz_an_y {p : Nat → Bool} {n m : Nat} (hp : p n = true) (hm : n < m) : zz_an p m = true := zz_an_t.mpr ⟨n, hm, hp⟩
theorem zz_an_n {p : Nat → Bool} {n : Nat} (h : zz_an p n = false) (hp : p n = false) : zz_an p (n + 1) = false := by
  unfold zz_an
  rw [h, hp]
  rfl
theorem zz_an_c {p q : Nat → Bool} : ∀ {n : Nat}, (∀ j, j < n → p j = q j) → zz_an p n = zz_an q n
  | 0, _ => rfl
  | n + 1, h => by
    unfold zz_an
    rw [zz_an_c (n := n) (fun j hj => h j (by omega)), h n (by omega)]
/-- sums -/
def zz_sm (f : Nat → Nat) : Nat → Nat
  | 0 => 0
  | n + 1 => zz_sm f n + f n
theorem zz_sm_c {f g : Nat → Nat} : ∀ {n : Nat}, (∀ j, j < n → f j = g j) → zz_sm f n = zz_sm g n
  | 0, _ => rfl
  | n + 1, h => by
    unfold zz_sm
    rw [zz_sm_c (n := n) (fun j hj => h j (by omega)), h n (by omega)]
theorem zz_sm_u {f g : Nat → Nat} {k : Nat} : ∀ {n : Nat}, k < n → (∀ j, j < n → j ≠ k → f j = g j) → zz_sm f n + g k = zz_sm g n + f k
  | 0, h, _ => absurd h (Nat.not_lt_zero k)
  | n + 1, h, hf => by
    unfold zz_sm
    by_cases e : k = n
    · subst e
      rw [zz_sm_c (n := k) (fun j hj => hf j (by omega) (by omega))]
      omega
    · have := zz_sm_u (f := f) (g := g) (n := n) (k := k) (by omega) (fun j hj => hf j (by omega))
      have := hf n (by omega) (by omega)
      omega
theorem zz_sm_b {f : Nat → Nat} {m : Nat} : ∀ {n : Nat}, (∀ j, j < n → f j ≤ m) → zz_sm f n ≤ n * m
  | 0, _ => Nat.zero_le _
  | n + 1, h => by
    unfold zz_sm
    have := zz_sm_b (n := n) (fun j hj => h j (by omega))
    have := h n (by omega)
    rw [Nat.succ_mul]
    omega
theorem zz_sm_le {f g : Nat → Nat} : ∀ {n : Nat}, (∀ j, j < n → f j ≤ g j) → zz_sm f n ≤ zz_sm g n
  | 0, _ => Nat.le_refl _
  | n + 1, h => by
    unfold zz_sm
    have := zz_sm_le (n := n) (fun j hj => h j (by omega))
    have := h n (by omega)
    omega
theorem zz_sm_i {f : Nat → Nat} {k : Nat} : ∀ {n : Nat}, k < n → f k ≤ zz_sm f n
  | 0, h => absurd h (Nat.not_lt_zero k)
  | n + 1, h => by
    unfold zz_sm
    by_cases e : k = n
    · subst e
      omega
    · have := zz_sm_i (f := f) (n := n) (k := k) (by omega)
      omega
theorem zz_sm_m {f : Nat → Nat} {k : Nat} : ∀ {n : Nat}, k ≤ n → zz_sm f k ≤ zz_sm f n
  | 0, h => by
    have : k = 0 := by omega
    subst this
    exact Nat.le_refl _
  | n + 1, h => by
    by_cases e : k = n + 1
    · subst e
      exact Nat.le_refl _
    · show zz_sm f k ≤ zz_sm f n + f n
      have := zz_sm_m (f := f) (n := n) (k := k) (by omega)
      omega
/-- a row in natural numbers, changed at one place -/
def zz_u (S : Nat → Nat) (k x : Nat) : Nat → Nat := fun j => if j = k then x else S j
theorem zz_us (S : Nat → Nat) (k x : Nat) : zz_u S k x k = x := if_pos rfl
theorem zz_un (S : Nat → Nat) {k j : Nat} (x : Nat) (h : j ≠ k) : zz_u S k x j = S j := if_neg h
theorem zz_k (K r : Nat) (h : r < K) : ∃ k, K = k + 1 ∧ r ≤ k := ⟨K - 1, by omega, by omega⟩
theorem zz_ne {a b : Nat} (h : a ≠ b) (ha : a < 2 ^ 31) (hb : b < 2 ^ 31) : ¬ nI a = nI b := fun e => h ((nI_eq ha hb).mp e)
/-- a loop that counts up -/
theorem zz_for {σ ρ : Type} (F : Nat → Nat → σ → Option ρ) (n : Nat) (I : Nat → σ → Prop) (Q : Option ρ → Prop) (he : ∀ k s, I n s → Q (F (k + 1) n s)) (hs : ∀ k i s, i < n → I i s → (∀ s', I (i + 1) s' → Q (F k (i + 1) s')) → Q (F (k + 1) i s)) : ∀ r i K s, i + r = n → r < K → I i s → Q (F K i s) := by
  intro r
  induction r with
  | zero =>
    intro i K s hi hK h
    obtain ⟨k, rfl, _⟩ := zz_k K 0 hK
    have e : i = n := by omega
    subst e
    exact he k s h
  | succ r ih =>
    intro i K s hi hK h
    obtain ⟨k, rfl, hk⟩ := zz_k K (r + 1) hK
    exact hs k i s (by omega) h (fun s' h' => ih (i + 1) k s' (by omega) (by omega) h')
theorem zz_for0 {σ ρ : Type} (F : Nat → Nat → σ → Option ρ) (n : Nat) (I : Nat → σ → Prop) (Q : Option ρ → Prop) (he : ∀ k s, I n s → Q (F (k + 1) n s)) (hs : ∀ k i s, i < n → I i s → (∀ s', I (i + 1) s' → Q (F k (i + 1) s')) → Q (F (k + 1) i s)) (K : Nat) (s : σ) (hK : n < K) (h : I 0 s) : Q (F K 0 s) :=
  zz_for F n I Q he hs n 0 K s (by omega) hK h
/-- a loop with a measure -/
theorem zz_while {σ ρ : Type} (F : Nat → σ → Option ρ) (I : σ → Prop) (μ : σ → Nat) (Q : Option ρ → Prop) (hs : ∀ k s, I s → (∀ s', I s' → μ s' < μ s → Q (F k s')) → Q (F (k + 1) s)) : ∀ m K s, μ s ≤ m → m < K → I s → Q (F K s) := by
  intro m
  induction m with
  | zero =>
    intro K s hm hK h
    obtain ⟨k, rfl, _⟩ := zz_k K 0 hK
    exact hs k s h (fun s' _ h2 => by omega)
  | succ m ih =>
    intro K s hm hK h
    obtain ⟨k, rfl, hk⟩ := zz_k K (m + 1) hK
    exact hs k s h (fun s' h' h2 => ih k s' (by omega) (by omega) h')
theorem zz_n1 {a : Nat} (h : a < 2 ^ 31) : ¬ nI a = (-1) := fun e => zz_m1 h (k := 1) (by decide) (by decide) e
theorem zz_uv (S : Nat → Nat) (k x j : Nat) : zz_u S k x j = if j = k then x else S j := rfl
theorem zz_os (b : Nat) : zz_o (some b) = nI b := rfl
theorem zz_on : zz_o none = -1 := rfl
