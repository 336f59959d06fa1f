-- a way laid as a plan, on both sides
def zz_nmv (f : Nat → Int32) (k c m : Nat) : Bool := match zz_nb c m with
  | some d => decide (f d = nI k)
  | none => false
def zz_fmv (f : Nat → Int32) (k c : Nat) : Nat := (zz_fi (zz_nmv f k c) 4).getD 0
def zz_wq (f : Nat → Int32) (n s : Nat) : Nat → Nat
  | 0 => s
  | i + 1 => (zz_nb (zz_wq f n s i) (zz_fmv f (n - 1 - i) (zz_wq f n s i))).getD 0
section ZLW
variable {S : Nat → Nat} {B K : Nat} {st nu ce fa mo le : Nat → Int32} {fc nx to re me : Int32} {v : Nat → Int32} {o : Nat → Bool} {s g F : Nat} {f f' : Nat → Int32}
/-- one nearer there is always one -/
theorem zz_near (hg : g < 81) (hF : 200 < F) (h : zz_is o (fun _ => 1) g F f) {c k : Nat} (hc : c < 81) (hk : zz_ds o (fun _ => 1) g c (k + 1)) (hk2 : k < 200) : ∃ m d, m < 4 ∧ zz_nb c m = some d ∧ d < 81 ∧ f d = nI k ∧ zz_ds o (fun _ => 1) g d k := by
  obtain ⟨⟨n, h1⟩, h2⟩ := hk
  cases n with
  | zero => exact absurd h1.1 (by omega)
  | succ n =>
    obtain ⟨c', d', m, g1, g2, g3, g4, g5, g6⟩ := h1
    have g6 : k + 1 = d' + 1 := g6
    obtain ⟨e1, e2⟩ := zz_nb_s g1 g2 g4
    have e3 : d' = k := by omega
    subst e3
    have hds : zz_ds o (fun _ => 1) g c' d' := by
      refine ⟨⟨n, g3⟩, fun n' d2 hw => ?_⟩
      have := h2 (n' + 1) (d2 + 1) ⟨c', d2, m, g1, g2, hw, g4, g5, rfl⟩
      omega
    refine ⟨zz_opp m, c', zz_opp_lt m g2, e1, g1, ?_, hds⟩
    rcases h c' g1 with ⟨d2, q1, q2, q3⟩ | ⟨q1, q2⟩
    · rw [q2, zz_ds_u q3 hds]
    · exact absurd g3 (q2 _ _)
theorem zz_is_v (hF : 200 < F) (hF2 : F < 2 ^ 31) (h : zz_is o (fun _ => 1) g F f) {c k : Nat} (hc : c < 81) (hk : k ≤ 200) : f c = nI k ↔ zz_ds o (fun _ => 1) g c k := by
  rcases h c hc with ⟨d, q1, q2, q3⟩ | ⟨q1, q2⟩
  · constructor
    · intro e
      rw [q2] at e
      have := (nI_eq (by omega) (by omega)).mp e
      rw [← this]
      exact q3
    · intro e
      rw [q2, zz_ds_u q3 e]
  · constructor
    · intro e
      rw [q1] at e
      have := (nI_eq (by omega) (by omega)).mp e
      omega
    · intro e
      obtain ⟨n, e1⟩ := e.1
      exact absurd e1 (q2 _ _)
theorem zz_nmv_eq {F' : Nat} (hF : 200 < F) (hF2 : F < 2 ^ 31) (hF' : 200 < F') (hF2' : F' < 2 ^ 31) (h : zz_is o (fun _ => 1) g F f) (h' : zz_is o (fun _ => 1) g F' f') {c k : Nat} (hc : c < 81) (hk : k ≤ 200) : ∀ m, m < 4 → zz_nmv f k c m = zz_nmv f' k c m := by
  intro m hm
  unfold zz_nmv
  cases e : zz_nb c m with
  | none => rfl
  | some d =>
    have hd := zz_nb_lt c hc m hm d e
    show decide (f d = nI k) = decide (f' d = nI k)
    rw [decide_eq_decide, zz_is_v hF hF2 h hd hk, zz_is_v hF' hF2' h' hd hk]
theorem zz_fmv_s (hg : g < 81) (hF : 200 < F) (hF2 : F < 2 ^ 31) (h : zz_is o (fun _ => 1) g F f) {c k : Nat} (hc : c < 81) (hk : zz_ds o (fun _ => 1) g c (k + 1)) (hk2 : k < 200) : ∃ d, zz_fi (zz_nmv f k c) 4 = some (zz_fmv f k c) ∧ zz_fmv f k c < 4 ∧ zz_nb c (zz_fmv f k c) = some d ∧ d < 81 ∧ f d = nI k ∧ zz_ds o (fun _ => 1) g d k := by
  unfold zz_fmv
  cases e : zz_fi (zz_nmv f k c) 4 with
  | none =>
    obtain ⟨m, d, h1, h2, h3, h4, _⟩ := zz_near hg hF h hc hk hk2
    have := zz_fi_none e m h1
    unfold zz_nmv at this
    rw [h2] at this
    have := of_decide_eq_false this
    exact absurd h4 this
  | some m =>
    obtain ⟨h1, h2, _⟩ := zz_fi_some e
    show ∃ d, some m = some m ∧ m < 4 ∧ zz_nb c m = some d ∧ _
    unfold zz_nmv at h2
    cases e2 : zz_nb c m with
    | none =>
      rw [e2] at h2
      cases h2
    | some d =>
      rw [e2] at h2
      have h3 : f d = nI k := of_decide_eq_true h2
      have hd := zz_nb_lt c hc m h1 d e2
      exact ⟨d, rfl, h1, rfl, hd, h3, (zz_is_v hF hF2 h hd (by omega)).mp h3⟩
/-- the way goes on -/
theorem zz_wq_s (hg : g < 81) (hF : 200 < F) (hF2 : F < 2 ^ 31) (h : zz_is o (fun _ => 1) g F f) {n : Nat} (hn : n ≤ 20) (hs : s < 81) (hd : zz_ds o (fun _ => 1) g s n) : ∀ i, i ≤ n → zz_wq f n s i < 81 ∧ zz_ds o (fun _ => 1) g (zz_wq f n s i) (n - i)
  | 0, _ => ⟨hs, hd⟩
  | i + 1, hi => by
    obtain ⟨h1, h2⟩ := zz_wq_s hg hF hF2 h hn hs hd i (by omega)
    rw [show n - i = n - 1 - i + 1 by omega] at h2
    obtain ⟨d, q1, q2, q3, q4, q5, q6⟩ := zz_fmv_s hg hF hF2 h h1 h2 (by omega)
    show (zz_nb (zz_wq f n s i) (zz_fmv f (n - 1 - i) (zz_wq f n s i))).getD 0 < 81 ∧ zz_ds o (fun _ => 1) g ((zz_nb (zz_wq f n s i) (zz_fmv f (n - 1 - i) (zz_wq f n s i))).getD 0) (n - (i + 1))
    rw [q3, show n - (i + 1) = n - 1 - i by omega]
    exact ⟨q4, q6⟩
theorem zc_firstMove (hK : 100 ≤ K) {c k : Nat} (hc : c < 81) {m : Nat} (hm : zz_fi (zz_nmv f k c) 4 = some m) : f_X11_firstMoveTo K f (nI c) (nI k) = some (nI m) := by
  refine zz_for0 (fun K i (_ : Unit) => f_X11_firstMoveTo_L2 f (nI c) (nI k) K (nI i)) 4 (fun i _ => zz_fi (zz_nmv f k c) i = none) (fun z => z = some (nI m)) ?_ ?_ K () (by omega) rfl
  · intro k' _ h
    rw [hm] at h
    cases h
  · intro k' i _ hi h ih
    show f_X11_firstMoveTo_L2 f (nI c) (nI k) (k' + 1) (nI i) = _
    rw [f_X11_firstMoveTo_L2, zz_l4, if_neg (nI_ge hi (by decide)), zc_neighbour c hc i hi, zz_b, nI_1]
    cases e : zz_nb c i with
    | none =>
      rw [zz_on, if_pos rfl]
      exact ih () (zz_fi_n h (by unfold zz_nmv; rw [e]))
    | some d =>
      have hd := zz_nb_lt c hc i hi d e
      have hp : zz_nmv f k c i = decide (f d = nI k) := by unfold zz_nmv; rw [e]
      rw [zz_os, if_neg (zz_n1 (by omega)), zz_g hd (by decide), nI_clamp (by omega)]
      by_cases q : f d = nI k
      · rw [if_pos q]
        have := zz_fi_y h (by rw [hp]; exact decide_eq_true q) hi
        rw [hm] at this
        cases this
        rfl
      · rw [if_neg q]
        exact ih () (zz_fi_n h (by rw [hp]; exact decide_eq_false q))
theorem zc_extend1 {p n m : Nat} (hK : 5 ≤ K) (hp : p < 6) (hn : n < 20) (hm : m < 4) (hl : le p = nI n) : f_X8_extend K mo le (nI p) (nI (zz_L m)) = some (nI (n + 1), upd mo (p * 20 + n) (nI m), upd le p (nI (n + 1))) := by
  have h1 : f_X12_isPlan (nI p) = some 1 := by
    rcases zz_plan (nI p) with ⟨h1, h2⟩ | ⟨q, _, _, h1, _⟩
    · rw [f_X12_isPlan, if_neg (nI_pos (by omega)), zz_l6, if_neg (nI_ge hp (by decide))] at h1
      cases h1
    · exact h1
  rw [f_X8_extend, h1, zz_b, if_neg (by decide), zc_moveOf hK, zz_mv_L m hm, zz_b, zz_os, if_neg (zz_n1 (by omega)), zz_g hp (by decide), nI_clamp (by omega), hl, zz_l20, if_pos (nI_lt hn (by decide)), zz_g hp (by decide), zc_setMove hp hn, zz_b, zz_g hp (by decide), zz_g hp (by decide), zz_g hp (by decide), nI_1, pk_us]
theorem zz_upd2 (q : Nat → Int32) (k : Nat) (x y : Int32) : upd (upd q k x) k y = upd q k y := by
  funext j
  rw [zz_upd, zz_upd, zz_upd]
  split <;> rfl
theorem zc_layL (hg : g < 81) (hF : 200 < F) (hF2 : F < 2 ^ 31) (h : zz_is o (fun _ => 1) g F f) {n p : Nat} (hn : n ≤ 20) (hp : p < 6) (hs : s < 81) (hd : zz_ds o (fun _ => 1) g s n) (hK : 100 ≤ K) : ∃ mo', f_X6_layWay_L117 K f (nI p) K (nI s) (nI n - 1) mo (upd le p (nI 0)) = some (mo', upd le p (nI n)) ∧ (∀ k, k < n → mo' (p * 20 + k) = nI (zz_fmv f (n - 1 - k) (zz_wq f n s k))) ∧ ∀ j, (j < p * 20 ∨ p * 20 + 20 ≤ j) → mo' j = mo j := by
  refine zz_for0 (fun K' i (r : (Nat → Int32) × (Nat → Int32)) => f_X6_layWay_L117 K f (nI p) K' (nI (zz_wq f n s i)) (nI (n - i) - 1) r.1 r.2) n (fun i r => r.2 = upd le p (nI i) ∧ (∀ k, k < i → r.1 (p * 20 + k) = nI (zz_fmv f (n - 1 - k) (zz_wq f n s k))) ∧ ∀ j, (j < p * 20 ∨ p * 20 + 20 ≤ j) → r.1 j = mo j) (fun z => ∃ mo', z = some (mo', upd le p (nI n)) ∧ (∀ k, k < n → mo' (p * 20 + k) = nI (zz_fmv f (n - 1 - k) (zz_wq f n s k))) ∧ ∀ j, (j < p * 20 ∨ p * 20 + 20 ≤ j) → mo' j = mo j) ?_ ?_ K (mo, upd le p (nI 0)) (by omega) ⟨rfl, fun k hk => by omega, fun _ _ => rfl⟩
  · intro k r hr
    obtain ⟨h1, h2, h3⟩ := hr
    refine ⟨r.1, ?_, h2, h3⟩
    show f_X6_layWay_L117 K f (nI p) (k + 1) (nI (zz_wq f n s n)) (nI (n - n) - 1) r.1 r.2 = _
    rw [f_X6_layWay_L117, Nat.sub_self, if_pos (by decide), h1]
  · intro k i r hi hr ih
    obtain ⟨h1, h2, h3⟩ := hr
    obtain ⟨w1, w2⟩ := zz_wq_s hg hF hF2 h hn hs hd i (by omega)
    rw [show n - i = n - 1 - i + 1 by omega] at w2
    obtain ⟨d, q1, q2, q3, q4, q5, q6⟩ := zz_fmv_s hg hF hF2 h w1 w2 (by omega)
    show ∃ mo', f_X6_layWay_L117 K f (nI p) (k + 1) (nI (zz_wq f n s i)) (nI (n - i) - 1) r.1 r.2 = some (mo', _) ∧ _
    have e1 : nI (n - i) - 1 = nI (n - 1 - i) := by
      rw [show n - i = n - 1 - i + 1 by omega, nI_pred]
    have e2 : nI (n - 1 - i) + -1 = nI (n - (i + 1)) - 1 := by
      rw [show n - (i + 1) = n - 1 - i by omega, show (-1 : Int32) = 0 - 1 by decide, Int32.sub_eq_add_neg, Int32.sub_eq_add_neg, Int32.zero_add]
    rw [f_X6_layWay_L117, e1, if_neg (nI_pos (by omega)), if_neg (zz_n1 (by omega)), zc_firstMove hK w1 q1, zz_b, zc_letter _ q2, zz_b, zc_extend1 (le := r.2) (by omega) hp (n := i) (by omega) q2 (by rw [h1, pk_us]), zz_b, zc_neighbour _ w1 _ q2, zz_b, q3, zz_os, e2]
    have e3 : zz_wq f n s (i + 1) = d := by
      show (zz_nb (zz_wq f n s i) (zz_fmv f (n - 1 - i) (zz_wq f n s i))).getD 0 = d
      rw [q3]
      rfl
    rw [← e3]
    refine ih (upd r.1 (p * 20 + i) (nI (zz_fmv f (n - 1 - i) (zz_wq f n s i))), upd r.2 p (nI (i + 1))) ⟨?_, fun j hj => ?_, fun j hj => ?_⟩
    · show upd r.2 p (nI (i + 1)) = upd le p (nI (i + 1))
      rw [h1, zz_upd2]
    · show upd r.1 (p * 20 + i) _ (p * 20 + j) = _
      rw [zz_upd]
      by_cases e : j = i
      · rw [if_pos (by omega), e]
      · rw [if_neg (by omega)]; exact h2 j (by omega)
    · show upd r.1 (p * 20 + i) _ j = mo j
      rw [zz_upd, if_neg (by omega)]; exact h3 j hj
theorem zm_nearer (hK : 100 ≤ K) {c k m d : Nat} (hc : c < 81) (hk : k < 200) (hm : zz_fi (zz_nmv f k c) 4 = some m) (hfc : f c = nI (k + 1)) (hd : zz_nb c m = some d) : f_X13_nearer K f (nI (c % 9)) (nI (c / 9)) = some (nI m, nI (d % 9), nI (d / 9)) := by
  have hcell : f_X13_cell (nI (c % 9)) (nI (c / 9)) = some (nI c) := by
    rw [f_X13_cell, zz_l9, pk_mul, nI_add, show 9 * (c / 9) + c % 9 = c by omega]
  rw [f_X13_nearer, hcell, zz_b, zz_g hc (by decide), nI_clamp (by omega), hfc]
  refine zz_for0 (fun K' i (r : Int32 × Int32) => f_X13_nearer_L24 f (nI (c % 9)) (nI (c / 9)) (nI (k + 1)) K' (nI i) r.1 r.2) 4 (fun i _ => zz_fi (zz_nmv f k c) i = none) (fun z => z = some (nI m, nI (d % 9), nI (d / 9))) ?_ ?_ K (nI (c % 9), nI (c / 9)) (by omega) rfl
  · intro k' _ h
    rw [hm] at h
    cases h
  · intro k' i r hi h ih
    show f_X13_nearer_L24 f (nI (c % 9)) (nI (c / 9)) (nI (k + 1)) (k' + 1) (nI i) r.1 r.2 = _
    have e9 : 9 * (c / 9) + c % 9 = c := by omega
    rw [f_X13_nearer_L24, zz_l4, if_neg (nI_ge hi (by decide)), nI_1, nI_pred]
    cases e : zz_nb c i with
    | none =>
      obtain ⟨a, b, hs⟩ := zm_step_n (x := c % 9) (y := c / 9) (by omega) (by omega) hi (by rw [e9]; exact e)
      rw [hs, zz_b, if_pos rfl]
      exact ih (a, b) (zz_fi_n h (by unfold zz_nmv; rw [e]))
    | some d' =>
      have hd' := zz_nb_lt c hc i hi d' e
      have hp : zz_nmv f k c i = decide (f d' = nI k) := by unfold zz_nmv; rw [e]
      have hcell2 : f_X13_cell (nI (d' % 9)) (nI (d' / 9)) = some (nI d') := by
        rw [f_X13_cell, zz_l9, pk_mul, nI_add, show 9 * (d' / 9) + d' % 9 = d' by omega]
      rw [zm_step_y (x := c % 9) (y := c / 9) (by omega) (by omega) hi (by rw [e9]; exact e), zz_b]
      show (if (1 : Int32) = 0 then _ else (f_X13_cell (nI (d' % 9)) (nI (d' / 9))).bind _) = _
      rw [if_neg (by decide), hcell2, zz_b, zz_g hd' (by decide), nI_clamp (by omega)]
      by_cases q : f d' = nI k
      · rw [if_pos q]
        have := zz_fi_y h (by rw [hp]; exact decide_eq_true q) hi
        rw [hm] at this
        cases this
        rw [hd] at e
        cases e
        rfl
      · rw [if_neg q]
        exact ih (nI (d' % 9), nI (d' / 9)) (zz_fi_n h (by rw [hp]; exact decide_eq_false q))
theorem zm_planL (hg : g < 81) (hF : 200 < F) (hF2 : F < 2 ^ 31) (h : zz_is o (fun _ => 1) g F f) {n : Nat} (hn : n ≤ 20) (hs : s < 81) (hd : zz_ds o (fun _ => 1) g s n) (hK : 100 ≤ K) (scratch : Nat → Int32) : ∃ sc x y, f_X13_plans_L127 K f (nI n) K 0 scratch (nI (s % 9)) (nI (s / 9)) = some (sc, x, y) ∧ ∀ k, k < n → sc k = nI (zz_fmv f (n - 1 - k) (zz_wq f n s k)) := by
  refine zz_for0 (fun K' i (r : (Nat → Int32) × Int32 × Int32) => f_X13_plans_L127 K f (nI n) K' (nI i) r.1 r.2.1 r.2.2) n (fun i r => r.2 = (nI (zz_wq f n s i % 9), nI (zz_wq f n s i / 9)) ∧ ∀ k, k < i → r.1 k = nI (zz_fmv f (n - 1 - k) (zz_wq f n s k))) (fun z => ∃ sc x y, z = some (sc, x, y) ∧ ∀ k, k < n → sc k = nI (zz_fmv f (n - 1 - k) (zz_wq f n s k))) ?_ ?_ K (scratch, nI (s % 9), nI (s / 9)) (by omega) ⟨rfl, fun k hk => by omega⟩
  · intro k r hr
    refine ⟨r.1, r.2.1, r.2.2, ?_, hr.2⟩
    show f_X13_plans_L127 K f (nI n) (k + 1) (nI n) r.1 r.2.1 r.2.2 = _
    rw [f_X13_plans_L127, if_pos (nI_le (Nat.le_refl _) (by omega))]
  · intro k i r hi hr ih
    obtain ⟨h1, h2⟩ := hr
    obtain ⟨w1, w2⟩ := zz_wq_s hg hF hF2 h hn hs hd i (by omega)
    rw [show n - i = n - 1 - i + 1 by omega] at w2
    obtain ⟨d, q1, q2, q3, q4, q5, q6⟩ := zz_fmv_s hg hF hF2 h w1 w2 (by omega)
    have hfc := (zz_is_v hF hF2 h w1 (by omega)).mpr w2
    have e3 : zz_wq f n s (i + 1) = d := by
      show (zz_nb (zz_wq f n s i) (zz_fmv f (n - 1 - i) (zz_wq f n s i))).getD 0 = d
      rw [q3]
      rfl
    show ∃ sc x y, f_X13_plans_L127 K f (nI n) (k + 1) (nI i) r.1 r.2.1 r.2.2 = some (sc, x, y) ∧ _
    rw [f_X13_plans_L127, if_neg (nI_ge hi (by omega)), h1, zm_nearer hK w1 (by omega) q1 hfc q3, zz_b, zz_g (by omega) (by decide), nI_clamp (by omega), nI_1]
    refine ih (upd r.1 i (nI (zz_fmv f (n - 1 - i) (zz_wq f n s i))), nI (d % 9), nI (d / 9)) ⟨by rw [e3], fun j hj => ?_⟩
    show upd r.1 i _ j = _
    rw [zz_upd]
    by_cases e : j = i
    · rw [if_pos e, e]
    · rw [if_neg e]; exact h2 j (by omega)
theorem zp_lay (hK : 9000000 ≤ K) (hs : ∀ c, c < 81 → st c = nI (S (7 + c))) (ir : zz_Ir S) (ib : zz_Ib B S) (io : zz_Io S) (ip : zz_Ip S) (pb : zz_Pb S nu ce fa fc nx to re me) (pp : zz_Pp S mo le) (hM : zz_Pm S v) (tl qu fo far scratch : Nat → Int32) (tx ty x2 x3 x4 x5 : Int32) :
    (∃ c e r t q f z far' sc' tx' ty', f_X6_layWay K st nu ce fc mo le tl qu fo x2 x3 x4 x5 = some (c, mo, le, t, q, f) ∧ f_X13_find K v x2 = some z ∧ f_X13_plans K 0 v far scratch tx ty z x3 x4 x5 = some (r, e, v, far', sc', tx', ty') ∧ ((c = -2 ∧ e = 1) ∨ (c = -1 ∧ e = 2) ∨ (c = -3 ∧ e = 3))) ∨
    (∃ a T mo' le' t q f v' z far' sc' tx' ty', a < 2 ^ 31 ∧ f_X6_layWay K st nu ce fc mo le tl qu fo x2 x3 x4 x5 = some (nI a, mo', le', t, q, f) ∧ f_X13_find K v x2 = some z ∧ f_X13_plans K 0 v far scratch tx ty z x3 x4 x5 = some (nI a, 0, v', far', sc', tx', ty') ∧ zz_Ip T ∧ (zz_Er S T ∧ zz_Eb S T ∧ zz_El S T ∧ zz_Ef S T) ∧ zz_Pp T mo' le' ∧ zz_Pm T v') := by
  obtain ⟨p1, p2, p3, rfl, p5, p6, p7, p8⟩ := pb
  have h4 := ib.2.1
  have hfind := zm_find (K := K) hM h4 (by omega) x2
  have hplace := zc_placeOf (K := K) (nu := nu) p1 h4 (by omega) x2
  cases hf : zz_fd S x2 with
  | none =>
    rw [hf, zz_on] at hfind hplace
    refine Or.inl ⟨-2, 1, 0, tl, qu, fo, -1, far, scratch, tx, ty, ?_, hfind, ?_, Or.inl ⟨rfl, rfl⟩⟩
    · rw [f_X6_layWay, hplace, zz_b, if_pos rfl]
    · rw [f_X13_plans, if_neg (by decide)]
      rfl
  | some b =>
    rw [hf, zz_os] at hfind hplace
    obtain ⟨hb, _, _⟩ := zz_fi_some hf
    have hb4 : b < 4 := by omega
    have hb81 := zz_Ib_c ib hb
    have hob := io b hb
    rcases zz_cell x3 x4 with ⟨h1, h2⟩ | ⟨a, y, ha, hy, rfl, rfl, h1, h2, h3⟩
    · refine Or.inl ⟨-1, 2, 0, tl, qu, fo, nI b, far, scratch, tx, ty, ?_, hfind, ?_, Or.inr (Or.inl ⟨rfl, rfl⟩)⟩
      · rw [f_X6_layWay, hplace, zz_b, if_neg (zz_n1 (by omega)), h1, zz_b, if_pos rfl]
      · rw [f_X13_plans, if_pos (nI_pos' (by omega)), h2, zz_b, if_pos rfl]
        rfl
    · have hc : 9 * y + a < 81 := by omega
      generalize 9 * y + a = c at *
      obtain ⟨t, t1, t2⟩ := zc_plain (K := K) hs ir.2.2 (by omega) tl
      obtain ⟨q, f, q1, q2, q3⟩ := zc_breadth (K := K) (by omega) t2 hc qu fo
      obtain ⟨f1, g1, g2⟩ := zm_reaches hK (zm_by0 hM ir.2.2) (fun _ _ => by decide) hb81 far
      -- the class
      have hcl : f_X6_layWay K st nu ce (nI (S 3)) mo le tl qu fo x2 (nI a) (nI y) x5 = (if (f (zz_c S b)) < 1000000 then (f_X12_isPlan x5).bind fun q79 => if q79 = 0 then some ((-1), mo, le, t, q, f) else if (f (zz_c S b)) ≤ 20 then (f_X8_empty le x5).bind fun q103 => (f_X6_layWay_L117 K f x5 K (nI (zz_c S b)) ((f (zz_c S b)) - 1) mo q103.2).bind fun q117 => some ((f (zz_c S b)), q117.1, q117.2, t, q, f) else some ((-3), mo, le, t, q, f) else some ((-2), mo, le, t, q, f)) := by
        rw [f_X6_layWay, hplace, zz_b, if_neg (zz_n1 (by omega)), h1, zz_b, if_neg (zz_n1 (by omega)), zz_g hb4 (by decide), t1, zz_b, q1, zz_b, nI_clamp (by omega), p2 b hb, zz_g hb81 (by decide), nI_clamp (by omega)]
      -- the reference
      have hml : f_X13_plans K 0 v far scratch tx ty (nI b) (nI a) (nI y) x5 = (if (f1 c) = 100000 then (f_X13_fail 1).bind fun q55 => some (q55.1, q55.2, v, f1, scratch, tx, ty) else (f_X13_isPlan x5).bind fun q61 => if q61 = 0 then (f_X13_fail 2).bind fun q69 => some (q69.1, q69.2, v, f1, scratch, tx, ty) else if (f1 c) ≤ 20 then (f_X13_cell (nI a) (nI y)).bind fun q89 => (f_X13_reaches K v f1 q89 0).bind fun q93 => (f_X13_of (nI b) 1).bind fun q103 => mm_g (mm_ck q103 238) ((f_X13_of (nI b) 2).bind fun q117 => mm_g (mm_ck q117 238) ((f_X13_plans_L127 K q93 (f1 c) K 0 scratch (v q103.toNatClampNeg) (v q117.toNatClampNeg)).bind fun q127 => (f_X13_becomes K v q127.1 x5 (f1 c)).bind fun q156 => some (q156.1, 0, q156.2, q93, q127.1, q127.2.1, q127.2.2))) else (f_X13_fail 3).bind fun q82 => some (q82.1, q82.2, v, f1, scratch, tx, ty)) := by
        rw [f_X13_plans, if_pos (nI_pos' (by omega)), h2, zz_b, if_neg (by decide), zm_where hM hb4, zz_b, g1, zz_b, h3, zz_b, zz_g hc (by decide), nI_clamp (by omega)]
      have hno : (∀ n d, ¬ zz_wk (zz_op S) (fun _ => 1) (zz_c S b) n d c) → (f (zz_c S b) = nI 1000000 ∧ f1 c = nI 100000) := by
        intro hnw
        refine ⟨?_, ?_⟩
        · cases ho : zz_op S c with
          | false => exact q3 ho _ hb81
          | true =>
            rcases q2 ho _ hb81 with ⟨d, _, _, ⟨n, k1⟩, _⟩ | ⟨k1, _⟩
            · exact absurd (zz_wk_rev hc ho (fun _ => rfl) k1).1 (hnw _ _)
            · exact k1
        · rcases g2 c hc with ⟨d, _, _, ⟨n, k1⟩, _⟩ | ⟨k1, _⟩
          · exact absurd k1 (hnw _ _)
          · exact k1
      by_cases hw : ∃ n d, zz_wk (zz_op S) (fun _ => 1) (zz_c S b) n d c
      · obtain ⟨n0, d0, hw⟩ := hw
        obtain ⟨hwr, ho⟩ := zz_wk_rev hb81 hob (fun _ => rfl) hw
        have q2 := q2 ho
        obtain ⟨d, k1, k2, k3⟩ : ∃ d, d ≤ 200 ∧ f (zz_c S b) = nI d ∧ zz_ds (zz_op S) (fun _ => 1) c (zz_c S b) d := by
          rcases q2 _ hb81 with h | ⟨_, h⟩
          · exact h
          · exact absurd hwr (h _ _)
        have k4 : f1 c = nI d := by
          refine (zz_is_v (by decide) (by decide) g2 hc k1).mpr ?_
          obtain ⟨⟨n, e1⟩, e2⟩ := k3
          refine ⟨⟨n, (zz_wk_rev hc ho (fun _ => rfl) e1).1⟩, fun n' d' h' => e2 n' d' (zz_wk_rev hb81 hob (fun _ => rfl) h').1⟩
        rw [k2, zz_l1000000, if_pos (nI_lt (by omega) (by decide))] at hcl
        rw [k4, zz_l100000, if_neg (zz_ne (by omega) (by omega) (by decide))] at hml
        rcases zz_plan x5 with ⟨e1, e2⟩ | ⟨p, hp, rfl, e1, e2⟩
        · refine Or.inl ⟨-1, 2, 0, t, q, f, nI b, f1, scratch, tx, ty, ?_, hfind, ?_, Or.inr (Or.inl ⟨rfl, rfl⟩)⟩
          · rw [hcl, e1]
            rfl
          · rw [hml, e2]
            rfl
        · rw [e1, zz_b, if_neg (by decide), zz_l20] at hcl
          rw [e2, zz_b, if_neg (by decide), zz_l20] at hml
          by_cases h20 : d ≤ 20
          · rw [if_pos (nI_le h20 (by decide))] at hcl hml
            obtain ⟨f2, r1, r2⟩ := zm_reaches hK (zm_by0 hM ir.2.2) (fun _ _ => by decide) hc f1
            have hemp : f_X8_empty le (nI p) = some (nI (S (104 + p)), upd le p (nI 0)) := by
              rw [f_X8_empty, e1, zz_b, if_neg (by decide), zz_g hp (by decide), zz_g hp (by decide), nI_clamp (by omega), pp.1 p hp]
              rfl
            obtain ⟨mo', l1, l2, l3⟩ := zc_layL (K := K) (mo := mo) (le := le) hc (by decide) (by decide) q2 h20 hp hb81 k3 (by omega)
            obtain ⟨sc, sx, sy, m1, m2⟩ := zm_planL (K := K) hc (by decide) (by decide) r2 h20 hb81 k3 (by omega) scratch
            -- the two rows lead the same way
            have hsame : ∀ i, i ≤ d → zz_wq f2 d (zz_c S b) i = zz_wq f d (zz_c S b) i ∧ (i < d → zz_fmv f2 (d - 1 - i) (zz_wq f d (zz_c S b) i) = zz_fmv f (d - 1 - i) (zz_wq f d (zz_c S b) i)) := by
              have hmv : ∀ i, i < d → zz_fmv f2 (d - 1 - i) (zz_wq f d (zz_c S b) i) = zz_fmv f (d - 1 - i) (zz_wq f d (zz_c S b) i) := by
                intro i hi
                have w1 := (zz_wq_s hc (by decide) (by decide) q2 h20 hb81 k3 i (by omega)).1
                unfold zz_fmv
                rw [zz_fi_c (zz_nmv_eq (by decide) (by decide) (by decide) (by decide) r2 q2 w1 (by omega))]
              intro i
              induction i with
              | zero => exact fun _ => ⟨rfl, fun h => hmv 0 h⟩
              | succ i ih =>
                intro hi
                refine ⟨?_, fun h => hmv _ h⟩
                obtain ⟨s1, s2⟩ := ih (by omega)
                show (zz_nb (zz_wq f2 d (zz_c S b) i) (zz_fmv f2 (d - 1 - i) (zz_wq f2 d (zz_c S b) i))).getD 0 = (zz_nb (zz_wq f d (zz_c S b) i) (zz_fmv f (d - 1 - i) (zz_wq f d (zz_c S b) i))).getD 0
                rw [s1, s2 (by omega)]
            have hsc : ∀ k, k < d → sc k = nI (zz_fmv f (d - 1 - k) (zz_wq f d (zz_c S b) k)) := by
              intro k hk
              obtain ⟨s1, s2⟩ := hsame k (by omega)
              rw [m2 k hk, s1, s2 hk]
            obtain ⟨v', v1, v2⟩ := zm_becomes (K := K) (scratch := sc) (sc := fun k => zz_fmv f (d - 1 - k) (zz_wq f d (zz_c S b) k)) (by omega) hM hp h20 hsc
            have hmv4 : ∀ k, k < d → zz_fmv f (d - 1 - k) (zz_wq f d (zz_c S b) k) < 4 := by
              intro k hk
              obtain ⟨w1, w2⟩ := zz_wq_s hc (by decide) (by decide) q2 h20 hb81 k3 k (by omega)
              rw [show d - k = d - 1 - k + 1 by omega] at w2
              obtain ⟨_, _, z2, _⟩ := zz_fmv_s hc (by decide) (by decide) q2 w1 w2 (by omega)
              exact z2
            have hxy := ib.2.2.2.2 b hb
            have ex : S (89 + 4 * b) = zz_c S b % 9 := by unfold zz_c; omega
            have ey : S (90 + 4 * b) = zz_c S b / 9 := by unfold zz_c; omega
            refine Or.inr ⟨d, _, mo', upd le p (nI d), t, q, f, v', nI b, f2, sc, sx, sy, by omega, ?_, hfind, ?_, zz_bT_I ip hp h20 hmv4, zz_bT_E S _ hp, zz_bT_P ip pp hp h20 l2 l3, v2⟩
            · rw [hcl, hemp, zz_b]
              show (f_X6_layWay_L117 K f (nI p) K (nI (zz_c S b)) (nI d - 1) mo (upd le p (nI 0))).bind _ = _
              rw [l1]
              rfl
            · rw [hml, h3, zz_b, r1, zz_b, zm_of1, zz_b, zz_g (by omega) (by decide), zm_of2, zz_b, zz_g (by omega) (by decide), nI_clamp (by omega), nI_clamp (by omega), hM _ (by omega), hM _ (by omega), ex, ey, m1, zz_b, v1]
              rfl
          · rw [if_neg (nI_ge (by omega) (by omega))] at hcl hml
            refine Or.inl ⟨-3, 3, 0, t, q, f, nI b, f1, scratch, tx, ty, hcl, hfind, ?_, Or.inr (Or.inr ⟨rfl, rfl⟩)⟩
            rw [hml]
            rfl
      · obtain ⟨k1, k2⟩ := hno (fun n d h => hw ⟨n, d, h⟩)
        rw [k1, if_neg (by decide)] at hcl
        rw [k2, if_pos (show nI 100000 = 100000 from rfl)] at hml
        refine Or.inl ⟨-2, 1, 0, t, q, f, nI b, f1, scratch, tx, ty, hcl, hfind, ?_, Or.inl ⟨rfl, rfl⟩⟩
        rw [hml]
        rfl
end ZLW
