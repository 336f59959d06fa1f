-- the numbers and marks behind a command's word
section ZRS
variable {K n p k : Nat} {t : Nat → Nat} {sg tx wd wa il v far scratch : Nat → Int32}
def zz_P (p m q : Nat) : Int32 := nI (p + if q ≤ m then q else m)
def zz_F (m q : Nat) : Int32 := if q ≤ m then 0 else 1
theorem zz_P_y {m q : Nat} (h : q ≤ m) : zz_P p m q = nI (p + q) := by unfold zz_P; rw [if_pos h]
theorem zz_P_n {m q : Nat} (h : m ≤ q) : zz_P p m q = nI (p + m) := by
  unfold zz_P
  split
  · rw [show q = m by omega]
  · rfl
theorem zz_F_y {m q : Nat} (h : q ≤ m) : zz_F m q = 0 := if_pos h
theorem zz_F_n {m q : Nat} (h : m < q) : zz_F m q = 1 := if_neg (by omega)
theorem zm_markS (h : zz_Tx n t sg tx) (hp : p ≤ 60) (hk : k < 11) {q c : Nat} (hq : q < zz_pl k) (hc : zz_pz k q = c) (h35 : c ≠ 35) : f_X13_mark tx (zz_P p (zz_m t n p k) q) (nI n) (zz_F (zz_m t n p k) q) (nI c) = some (zz_P p (zz_m t n p k) (q + 1), zz_F (zz_m t n p k) (q + 1)) := by
  obtain ⟨_, _, _, g4, _⟩ := zz_pat1 k hk
  have h126 := (zz_pat2 k hk q (by omega)).2.1 hq
  have hf := zm_fits (p := p) (j := q) (c := c) h h35 (by omega)
  have h1 := zz_m_1 (t := t) (n := n) (p := p) (k := k) (x := q)
  rw [hc] at h1
  rw [f_X13_mark]
  by_cases e : q ≤ zz_m t n p k
  · rw [zz_P_y e, zz_F_y e, if_pos rfl, zm_signV h (by omega), zz_b]
    by_cases u : zz_ok t n p c q = true
    · have hm := h1.mpr ⟨e, hq, u⟩
      rw [if_pos (hf.mpr u).symm, zz_P_y hm, zz_F_y hm, nI_1]
      rfl
    · have hm : ¬ q + 1 ≤ zz_m t n p k := fun z => u (h1.mp z).2.2
      have e2 : zz_m t n p k = q := by omega
      rw [if_neg (fun z => u (hf.mp z.symm)), zz_P_n (by omega), zz_F_n (by omega), zz_l0, nI_add, e2]
      rfl
  · rw [zz_F_n (by omega), if_neg (by decide), zz_P_n (by omega), zz_P_n (by omega), zz_F_n (by omega)]
theorem zm_digitS (h : zz_Tx n t sg tx) (hp : p ≤ 60) (hk : k < 11) {q : Nat} (hq : q < zz_pl k) (hc : zz_pz k q = 35) : f_X13_digit tx (zz_P p (zz_m t n p k) q) (nI n) (zz_F (zz_m t n p k) q) = some (if q + 1 ≤ zz_m t n p k then nI (t (p + q)) - 48 else 0, zz_P p (zz_m t n p k) (q + 1), zz_F (zz_m t n p k) (q + 1)) := by
  obtain ⟨_, _, _, g4, _⟩ := zz_pat1 k hk
  have h1 := zz_m_1 (t := t) (n := n) (p := p) (k := k) (x := q)
  rw [hc] at h1
  have hn60 := h.1
  rw [f_X13_digit]
  by_cases e : q ≤ zz_m t n p k
  · rw [zz_P_y e, zz_F_y e, if_pos rfl, zm_signV h (by omega), zz_b, f_X13_isIn]
    by_cases u : zz_ok t n p 35 q = true
    · have hm := h1.mpr ⟨e, hq, u⟩
      obtain ⟨u1, u2⟩ := of_decide_eq_true u
      rw [if_pos rfl] at u2
      obtain ⟨_, _, _, d4⟩ := h.2 _ u1
      rw [if_pos u1, zz_l48, zz_l57, if_neg (nI_nlt u2.1 (by omega)), if_neg (nI_nlt u2.2 (by omega)), zz_b, if_neg (by decide), nI_1, zz_l1, pk_sub (by omega), zz_g (by omega) (by decide), nI_clamp (by omega), show p + q + 1 - 1 = p + q by omega, d4, if_pos hm, zz_P_y hm, zz_F_y hm]
      rfl
    · have hm : ¬ q + 1 ≤ zz_m t n p k := fun z => u (h1.mp z).2.2
      have e2 : zz_m t n p k = q := by omega
      have hr : (if (if p + q < n then nI (t (p + q)) else -1) < 48 then some (0 : Int32) else if 57 < (if p + q < n then nI (t (p + q)) else -1) then some 0 else some 1) = some 0 := by
        by_cases u1 : p + q < n
        · obtain ⟨d1, d2, _, _⟩ := h.2 _ u1
          rw [if_pos u1, zz_l48, zz_l57]
          by_cases w1 : t (p + q) < 48
          · rw [if_pos (nI_lt w1 (by decide))]
          · by_cases w2 : 57 < t (p + q)
            · rw [if_neg (nI_nlt (by omega) (by omega)), if_pos (nI_lt w2 (by omega))]
            · exact absurd (decide_eq_true ⟨u1, by rw [if_pos rfl]; omega⟩) u
        · rw [if_neg u1, if_pos (by decide)]
      rw [hr, zz_b, if_pos rfl, if_neg hm, zz_P_n (by omega), zz_F_n (by omega), zz_l0, nI_add, e2]
      rfl
  · rw [zz_F_n (by omega), if_neg (by decide), if_neg (by omega), zz_P_n (by omega), zz_P_n (by omega), zz_F_n (by omega)]
def zz_rc {β : Type} (K n : Nat) (tx : Nat → Int32) (a b kc : Int32) (C : Int32 → Int32 → Int32 → Int32 → Int32 → Int32 → Int32 → Option β) : Option β := (f_X13_digit tx a (nI n) b).bind fun q21 => (f_X13_command_B26 tx q21.2.1 (nI n) q21.2.2 kc).bind fun q26 => (f_X13_command_B37 tx q26.1 (nI n) q26.2 kc).bind fun q37 => (f_X13_command_B49 tx q37.1 (nI n) q37.2 kc).bind fun q49 => (f_X13_command_B61 tx q49.1 (nI n) q49.2 kc 0).bind fun q61 => (f_X13_command_B83 tx q61.2.1 (nI n) q61.2.2 kc 0 0).bind fun q83 => (f_X13_command_L112 tx (nI n) q83.2.2.2 kc K q83.2.2.1).bind fun q112 => C q21.1 q61.1 q83.1 q83.2.1 q83.2.2.1 q83.2.2.2 q112
/-- where a command ends -/
def zz_en (t : Nat → Nat) (n p k : Nat) : Nat := if k = 3 then zz_em t n (p + zz_pl k) else p + zz_pl k
def zz_ee (t : Nat → Nat) (n p k : Nat) : Nat := if zz_m t n p k = zz_pl k then zz_en t n p k else p + zz_m t n p k
theorem zm_L112_o {w here kc : Int32} (hK : 0 < K) (h : ¬ kc = 3) : f_X13_command_L112 tx (nI n) w kc K here = some here := by
  obtain ⟨L, rfl, _⟩ := zz_k K 0 hK
  rw [f_X13_command_L112, if_neg h]
theorem zm_L112_w {here kc : Int32} (hK : 0 < K) : f_X13_command_L112 tx (nI n) 1 kc K here = some here := by
  obtain ⟨L, rfl, _⟩ := zz_k K 0 hK
  rw [f_X13_command_L112]
  split
  · rw [if_neg (by decide)]
  · rfl
theorem zz_ee_o (h : k ≠ 3) : zz_ee t n p k = p + zz_m t n p k := by
  unfold zz_ee zz_en
  split
  · rw [show zz_m t n p k = zz_pl k by assumption]
  · rfl
theorem zm_rest0 (h : zz_Tx n t sg tx) (hK : 100 ≤ K) (hp : p ≤ 60) (hm : zz_wl 0 ≤ zz_m t n p 0) : ∃ y0 y1 y2 y3, (∀ {β : Type} (C : Int32 → Int32 → Int32 → Int32 → Int32 → Int32 → Int32 → Option β), zz_rc K n tx (nI (p + zz_wl 0)) 0 (nI 0) C = C y0 y1 y2 y3 (nI (p + zz_m t n p 0)) (zz_F (zz_m t n p 0) (zz_pl 0)) (nI (zz_ee t n p 0))) ∧ (zz_m t n p 0 = zz_pl 0 → f_X1_number K sg (nI n) (nI p) 0 0 = some y0 ∧ f_X1_number K sg (nI n) (nI p) 1 0 = some y1 ∧ (0 = 8 → f_X1_number K sg (nI n) (nI p) 2 0 = some y2 ∧ f_X1_number K sg (nI n) (nI p) 3 0 = some y3)) := by
  have hpl : zz_pl 0 = 7 := rfl
  have hwl : zz_wl 0 = 5 := rfl
  have hml := (zz_m_s (t := t) (n := n) (p := p) (k := 0)).1
  refine ⟨(if 5 + 1 ≤ zz_m t n p 0 then nI (t (p + 5)) - 48 else 0), (if 6 + 1 ≤ zz_m t n p 0 then nI (t (p + 6)) - 48 else 0), 0, 0, fun C => ?_, fun hfull => ?_⟩
  · have hs : zz_rc K n tx (nI (p + zz_wl 0)) 0 (nI 0) C = zz_rc K n tx (zz_P p (zz_m t n p 0) 5) (zz_F (zz_m t n p 0) 5) (nI 0) C := by rw [zz_P_y (by omega), zz_F_y (by omega), hwl]
    rw [hs, zz_rc, zm_digitS h hp (k := 0) (by decide) (q := 5) (by decide) (by decide), zz_b, f_X13_command_B26, if_neg (show ¬ (nI 0 = 3) by decide), zz_b, f_X13_command_B37, if_neg (show ¬ (nI 0 = 7) by decide), zz_b, f_X13_command_B49, if_neg (show ¬ (nI 0 = 8) by decide), zz_b, f_X13_command_B61, if_neg (show ¬ (nI 0 = 3) by decide), if_neg (show ¬ (nI 0 = 6) by decide), if_neg (show ¬ (nI 0 = 10) by decide), zm_digitS h hp (k := 0) (by decide) (q := 6) (by decide) (by decide), zz_b, zz_b, f_X13_command_B83, if_neg (show ¬ (nI 0 = 8) by decide), zz_b]
    rw [zm_L112_o (by omega) (by decide), zz_b, zz_ee_o (by decide)]
    show C (if 5 + 1 ≤ zz_m t n p 0 then nI (t (p + 5)) - 48 else 0) (if 6 + 1 ≤ zz_m t n p 0 then nI (t (p + 6)) - 48 else 0) 0 0 (zz_P p (zz_m t n p 0) 7) (zz_F (zz_m t n p 0) 7) (zz_P p (zz_m t n p 0) 7) = _
    rw [zz_P_n (by omega), hpl]
  · have hn := zz_m_n (t := t) (n := n) (p := p) (k := 0) (by omega)
    exact ⟨(zc_number h hK (k := 0) (by decide) hp (d := 5) (i := 0) (by decide) (by decide) (by decide) (by omega)).trans (by rw [if_pos (by omega)]), (zc_number h hK (k := 0) (by decide) hp (d := 6) (i := 1) (by decide) (by decide) (by decide) (by omega)).trans (by rw [if_pos (by omega)]), fun q => absurd q (by decide)⟩
theorem zm_rest1 (h : zz_Tx n t sg tx) (hK : 100 ≤ K) (hp : p ≤ 60) (hm : zz_wl 1 ≤ zz_m t n p 1) : ∃ y0 y1 y2 y3, (∀ {β : Type} (C : Int32 → Int32 → Int32 → Int32 → Int32 → Int32 → Int32 → Option β), zz_rc K n tx (nI (p + zz_wl 1)) 0 (nI 1) C = C y0 y1 y2 y3 (nI (p + zz_m t n p 1)) (zz_F (zz_m t n p 1) (zz_pl 1)) (nI (zz_ee t n p 1))) ∧ (zz_m t n p 1 = zz_pl 1 → f_X1_number K sg (nI n) (nI p) 0 1 = some y0 ∧ f_X1_number K sg (nI n) (nI p) 1 1 = some y1 ∧ (1 = 8 → f_X1_number K sg (nI n) (nI p) 2 1 = some y2 ∧ f_X1_number K sg (nI n) (nI p) 3 1 = some y3)) := by
  have hpl : zz_pl 1 = 8 := rfl
  have hwl : zz_wl 1 = 6 := rfl
  have hml := (zz_m_s (t := t) (n := n) (p := p) (k := 1)).1
  refine ⟨(if 6 + 1 ≤ zz_m t n p 1 then nI (t (p + 6)) - 48 else 0), (if 7 + 1 ≤ zz_m t n p 1 then nI (t (p + 7)) - 48 else 0), 0, 0, fun C => ?_, fun hfull => ?_⟩
  · have hs : zz_rc K n tx (nI (p + zz_wl 1)) 0 (nI 1) C = zz_rc K n tx (zz_P p (zz_m t n p 1) 6) (zz_F (zz_m t n p 1) 6) (nI 1) C := by rw [zz_P_y (by omega), zz_F_y (by omega), hwl]
    rw [hs, zz_rc, zm_digitS h hp (k := 1) (by decide) (q := 6) (by decide) (by decide), zz_b, f_X13_command_B26, if_neg (show ¬ (nI 1 = 3) by decide), zz_b, f_X13_command_B37, if_neg (show ¬ (nI 1 = 7) by decide), zz_b, f_X13_command_B49, if_neg (show ¬ (nI 1 = 8) by decide), zz_b, f_X13_command_B61, if_neg (show ¬ (nI 1 = 3) by decide), if_neg (show ¬ (nI 1 = 6) by decide), if_neg (show ¬ (nI 1 = 10) by decide), zm_digitS h hp (k := 1) (by decide) (q := 7) (by decide) (by decide), zz_b, zz_b, f_X13_command_B83, if_neg (show ¬ (nI 1 = 8) by decide), zz_b]
    rw [zm_L112_o (by omega) (by decide), zz_b, zz_ee_o (by decide)]
    show C (if 6 + 1 ≤ zz_m t n p 1 then nI (t (p + 6)) - 48 else 0) (if 7 + 1 ≤ zz_m t n p 1 then nI (t (p + 7)) - 48 else 0) 0 0 (zz_P p (zz_m t n p 1) 8) (zz_F (zz_m t n p 1) 8) (zz_P p (zz_m t n p 1) 8) = _
    rw [zz_P_n (by omega), hpl]
  · have hn := zz_m_n (t := t) (n := n) (p := p) (k := 1) (by omega)
    exact ⟨(zc_number h hK (k := 1) (by decide) hp (d := 6) (i := 0) (by decide) (by decide) (by decide) (by omega)).trans (by rw [if_pos (by omega)]), (zc_number h hK (k := 1) (by decide) hp (d := 7) (i := 1) (by decide) (by decide) (by decide) (by omega)).trans (by rw [if_pos (by omega)]), fun q => absurd q (by decide)⟩
theorem zm_rest2 (h : zz_Tx n t sg tx) (hK : 100 ≤ K) (hp : p ≤ 60) (hm : zz_wl 2 ≤ zz_m t n p 2) : ∃ y0 y1 y2 y3, (∀ {β : Type} (C : Int32 → Int32 → Int32 → Int32 → Int32 → Int32 → Int32 → Option β), zz_rc K n tx (nI (p + zz_wl 2)) 0 (nI 2) C = C y0 y1 y2 y3 (nI (p + zz_m t n p 2)) (zz_F (zz_m t n p 2) (zz_pl 2)) (nI (zz_ee t n p 2))) ∧ (zz_m t n p 2 = zz_pl 2 → f_X1_number K sg (nI n) (nI p) 0 2 = some y0 ∧ f_X1_number K sg (nI n) (nI p) 1 2 = some y1 ∧ (2 = 8 → f_X1_number K sg (nI n) (nI p) 2 2 = some y2 ∧ f_X1_number K sg (nI n) (nI p) 3 2 = some y3)) := by
  have hpl : zz_pl 2 = 7 := rfl
  have hwl : zz_wl 2 = 5 := rfl
  have hml := (zz_m_s (t := t) (n := n) (p := p) (k := 2)).1
  refine ⟨(if 5 + 1 ≤ zz_m t n p 2 then nI (t (p + 5)) - 48 else 0), (if 6 + 1 ≤ zz_m t n p 2 then nI (t (p + 6)) - 48 else 0), 0, 0, fun C => ?_, fun hfull => ?_⟩
  · have hs : zz_rc K n tx (nI (p + zz_wl 2)) 0 (nI 2) C = zz_rc K n tx (zz_P p (zz_m t n p 2) 5) (zz_F (zz_m t n p 2) 5) (nI 2) C := by rw [zz_P_y (by omega), zz_F_y (by omega), hwl]
    rw [hs, zz_rc, zm_digitS h hp (k := 2) (by decide) (q := 5) (by decide) (by decide), zz_b, f_X13_command_B26, if_neg (show ¬ (nI 2 = 3) by decide), zz_b, f_X13_command_B37, if_neg (show ¬ (nI 2 = 7) by decide), zz_b, f_X13_command_B49, if_neg (show ¬ (nI 2 = 8) by decide), zz_b, f_X13_command_B61, if_neg (show ¬ (nI 2 = 3) by decide), if_neg (show ¬ (nI 2 = 6) by decide), if_neg (show ¬ (nI 2 = 10) by decide), zm_digitS h hp (k := 2) (by decide) (q := 6) (by decide) (by decide), zz_b, zz_b, f_X13_command_B83, if_neg (show ¬ (nI 2 = 8) by decide), zz_b]
    rw [zm_L112_o (by omega) (by decide), zz_b, zz_ee_o (by decide)]
    show C (if 5 + 1 ≤ zz_m t n p 2 then nI (t (p + 5)) - 48 else 0) (if 6 + 1 ≤ zz_m t n p 2 then nI (t (p + 6)) - 48 else 0) 0 0 (zz_P p (zz_m t n p 2) 7) (zz_F (zz_m t n p 2) 7) (zz_P p (zz_m t n p 2) 7) = _
    rw [zz_P_n (by omega), hpl]
  · have hn := zz_m_n (t := t) (n := n) (p := p) (k := 2) (by omega)
    exact ⟨(zc_number h hK (k := 2) (by decide) hp (d := 5) (i := 0) (by decide) (by decide) (by decide) (by omega)).trans (by rw [if_pos (by omega)]), (zc_number h hK (k := 2) (by decide) hp (d := 6) (i := 1) (by decide) (by decide) (by decide) (by omega)).trans (by rw [if_pos (by omega)]), fun q => absurd q (by decide)⟩
theorem zm_rest3 (h : zz_Tx n t sg tx) (hK : 100 ≤ K) (hp : p ≤ 60) (hm : zz_wl 3 ≤ zz_m t n p 3) : ∃ y0 y1 y2 y3, (∀ {β : Type} (C : Int32 → Int32 → Int32 → Int32 → Int32 → Int32 → Int32 → Option β), zz_rc K n tx (nI (p + zz_wl 3)) 0 (nI 3) C = C y0 y1 y2 y3 (nI (p + zz_m t n p 3)) (zz_F (zz_m t n p 3) (zz_pl 3)) (nI (zz_ee t n p 3))) ∧ (zz_m t n p 3 = zz_pl 3 → f_X1_number K sg (nI n) (nI p) 0 3 = some y0 ∧ f_X1_number K sg (nI n) (nI p) 1 3 = some y1 ∧ (3 = 8 → f_X1_number K sg (nI n) (nI p) 2 3 = some y2 ∧ f_X1_number K sg (nI n) (nI p) 3 3 = some y3)) := by
  have hpl : zz_pl 3 = 7 := rfl
  have hwl : zz_wl 3 = 5 := rfl
  have hml := (zz_m_s (t := t) (n := n) (p := p) (k := 3)).1
  refine ⟨(if 5 + 1 ≤ zz_m t n p 3 then nI (t (p + 5)) - 48 else 0), 0, 0, 0, fun C => ?_, fun hfull => ?_⟩
  · have hs : zz_rc K n tx (nI (p + zz_wl 3)) 0 (nI 3) C = zz_rc K n tx (zz_P p (zz_m t n p 3) 5) (zz_F (zz_m t n p 3) 5) (nI 3) C := by rw [zz_P_y (by omega), zz_F_y (by omega), hwl]
    rw [hs, zz_rc, zm_digitS h hp (k := 3) (by decide) (q := 5) (by decide) (by decide), zz_b, f_X13_command_B26, if_pos (show nI 3 = 3 by decide), zz_l61, zm_markS h hp (k := 3) (by decide) (q := 6) (by decide) (by decide) (by decide), zz_b, zz_b, f_X13_command_B37, if_neg (show ¬ (nI 3 = 7) by decide), zz_b, f_X13_command_B49, if_neg (show ¬ (nI 3 = 8) by decide), zz_b, f_X13_command_B61, if_pos (show nI 3 = 3 by decide), zz_b, f_X13_command_B83, if_neg (show ¬ (nI 3 = 8) by decide), zz_b]
    by_cases e : zz_m t n p 3 = zz_pl 3
    · have hn := zz_m_n (t := t) (n := n) (p := p) (k := 3) (by omega)
      have hee : zz_ee t n p 3 = zz_em t n (p + 7) := by
        unfold zz_ee zz_en
        rw [if_pos e, if_pos rfl, hpl]
      show (f_X13_command_L112 tx (nI n) (zz_F (zz_m t n p 3) 7) (nI 3) K (zz_P p (zz_m t n p 3) 7)).bind (fun q => C (if 5 + 1 ≤ zz_m t n p 3 then nI (t (p + 5)) - 48 else 0) 0 0 0 (zz_P p (zz_m t n p 3) 7) (zz_F (zz_m t n p 3) 7) q) = _
      rw [zz_F_y (by omega), zz_P_y (by omega)]
      show ((f_X13_command_L112 tx (nI n) 0 3 K (nI (p + 7))).bind _) = _
      rw [zm_endMoves h hK (by omega), zz_b, hee, e, zz_F_y (Nat.le_refl _), hpl]
    · have hee : zz_ee t n p 3 = p + zz_m t n p 3 := by
        unfold zz_ee
        rw [if_neg e]
      show (f_X13_command_L112 tx (nI n) (zz_F (zz_m t n p 3) 7) (nI 3) K (zz_P p (zz_m t n p 3) 7)).bind (fun q => C (if 5 + 1 ≤ zz_m t n p 3 then nI (t (p + 5)) - 48 else 0) 0 0 0 (zz_P p (zz_m t n p 3) 7) (zz_F (zz_m t n p 3) 7) q) = _
      rw [zz_F_n (by omega), zz_P_n (by omega)]
      rw [zm_L112_w (by omega), zz_b, hee, zz_F_n (by omega)]
  · have hn := zz_m_n (t := t) (n := n) (p := p) (k := 3) (by omega)
    exact ⟨(zc_number h hK (k := 3) (by decide) hp (d := 5) (i := 0) (by decide) (by decide) (by decide) (by omega)).trans (by rw [if_pos (by omega)]), zc_number0 hK (k := 3) (by decide) (i := 1) (by decide) (by decide), fun q => absurd q (by decide)⟩
theorem zm_rest4 (h : zz_Tx n t sg tx) (hK : 100 ≤ K) (hp : p ≤ 60) (hm : zz_wl 4 ≤ zz_m t n p 4) : ∃ y0 y1 y2 y3, (∀ {β : Type} (C : Int32 → Int32 → Int32 → Int32 → Int32 → Int32 → Int32 → Option β), zz_rc K n tx (nI (p + zz_wl 4)) 0 (nI 4) C = C y0 y1 y2 y3 (nI (p + zz_m t n p 4)) (zz_F (zz_m t n p 4) (zz_pl 4)) (nI (zz_ee t n p 4))) ∧ (zz_m t n p 4 = zz_pl 4 → f_X1_number K sg (nI n) (nI p) 0 4 = some y0 ∧ f_X1_number K sg (nI n) (nI p) 1 4 = some y1 ∧ (4 = 8 → f_X1_number K sg (nI n) (nI p) 2 4 = some y2 ∧ f_X1_number K sg (nI n) (nI p) 3 4 = some y3)) := by
  have hpl : zz_pl 4 = 9 := rfl
  have hwl : zz_wl 4 = 7 := rfl
  have hml := (zz_m_s (t := t) (n := n) (p := p) (k := 4)).1
  refine ⟨(if 7 + 1 ≤ zz_m t n p 4 then nI (t (p + 7)) - 48 else 0), (if 8 + 1 ≤ zz_m t n p 4 then nI (t (p + 8)) - 48 else 0), 0, 0, fun C => ?_, fun hfull => ?_⟩
  · have hs : zz_rc K n tx (nI (p + zz_wl 4)) 0 (nI 4) C = zz_rc K n tx (zz_P p (zz_m t n p 4) 7) (zz_F (zz_m t n p 4) 7) (nI 4) C := by rw [zz_P_y (by omega), zz_F_y (by omega), hwl]
    rw [hs, zz_rc, zm_digitS h hp (k := 4) (by decide) (q := 7) (by decide) (by decide), zz_b, f_X13_command_B26, if_neg (show ¬ (nI 4 = 3) by decide), zz_b, f_X13_command_B37, if_neg (show ¬ (nI 4 = 7) by decide), zz_b, f_X13_command_B49, if_neg (show ¬ (nI 4 = 8) by decide), zz_b, f_X13_command_B61, if_neg (show ¬ (nI 4 = 3) by decide), if_neg (show ¬ (nI 4 = 6) by decide), if_neg (show ¬ (nI 4 = 10) by decide), zm_digitS h hp (k := 4) (by decide) (q := 8) (by decide) (by decide), zz_b, zz_b, f_X13_command_B83, if_neg (show ¬ (nI 4 = 8) by decide), zz_b]
    rw [zm_L112_o (by omega) (by decide), zz_b, zz_ee_o (by decide)]
    show C (if 7 + 1 ≤ zz_m t n p 4 then nI (t (p + 7)) - 48 else 0) (if 8 + 1 ≤ zz_m t n p 4 then nI (t (p + 8)) - 48 else 0) 0 0 (zz_P p (zz_m t n p 4) 9) (zz_F (zz_m t n p 4) 9) (zz_P p (zz_m t n p 4) 9) = _
    rw [zz_P_n (by omega), hpl]
  · have hn := zz_m_n (t := t) (n := n) (p := p) (k := 4) (by omega)
    exact ⟨(zc_number h hK (k := 4) (by decide) hp (d := 7) (i := 0) (by decide) (by decide) (by decide) (by omega)).trans (by rw [if_pos (by omega)]), (zc_number h hK (k := 4) (by decide) hp (d := 8) (i := 1) (by decide) (by decide) (by decide) (by omega)).trans (by rw [if_pos (by omega)]), fun q => absurd q (by decide)⟩
theorem zm_rest5 (h : zz_Tx n t sg tx) (hK : 100 ≤ K) (hp : p ≤ 60) (hm : zz_wl 5 ≤ zz_m t n p 5) : ∃ y0 y1 y2 y3, (∀ {β : Type} (C : Int32 → Int32 → Int32 → Int32 → Int32 → Int32 → Int32 → Option β), zz_rc K n tx (nI (p + zz_wl 5)) 0 (nI 5) C = C y0 y1 y2 y3 (nI (p + zz_m t n p 5)) (zz_F (zz_m t n p 5) (zz_pl 5)) (nI (zz_ee t n p 5))) ∧ (zz_m t n p 5 = zz_pl 5 → f_X1_number K sg (nI n) (nI p) 0 5 = some y0 ∧ f_X1_number K sg (nI n) (nI p) 1 5 = some y1 ∧ (5 = 8 → f_X1_number K sg (nI n) (nI p) 2 5 = some y2 ∧ f_X1_number K sg (nI n) (nI p) 3 5 = some y3)) := by
  have hpl : zz_pl 5 = 7 := rfl
  have hwl : zz_wl 5 = 5 := rfl
  have hml := (zz_m_s (t := t) (n := n) (p := p) (k := 5)).1
  refine ⟨(if 5 + 1 ≤ zz_m t n p 5 then nI (t (p + 5)) - 48 else 0), (if 6 + 1 ≤ zz_m t n p 5 then nI (t (p + 6)) - 48 else 0), 0, 0, fun C => ?_, fun hfull => ?_⟩
  · have hs : zz_rc K n tx (nI (p + zz_wl 5)) 0 (nI 5) C = zz_rc K n tx (zz_P p (zz_m t n p 5) 5) (zz_F (zz_m t n p 5) 5) (nI 5) C := by rw [zz_P_y (by omega), zz_F_y (by omega), hwl]
    rw [hs, zz_rc, zm_digitS h hp (k := 5) (by decide) (q := 5) (by decide) (by decide), zz_b, f_X13_command_B26, if_neg (show ¬ (nI 5 = 3) by decide), zz_b, f_X13_command_B37, if_neg (show ¬ (nI 5 = 7) by decide), zz_b, f_X13_command_B49, if_neg (show ¬ (nI 5 = 8) by decide), zz_b, f_X13_command_B61, if_neg (show ¬ (nI 5 = 3) by decide), if_neg (show ¬ (nI 5 = 6) by decide), if_neg (show ¬ (nI 5 = 10) by decide), zm_digitS h hp (k := 5) (by decide) (q := 6) (by decide) (by decide), zz_b, zz_b, f_X13_command_B83, if_neg (show ¬ (nI 5 = 8) by decide), zz_b]
    rw [zm_L112_o (by omega) (by decide), zz_b, zz_ee_o (by decide)]
    show C (if 5 + 1 ≤ zz_m t n p 5 then nI (t (p + 5)) - 48 else 0) (if 6 + 1 ≤ zz_m t n p 5 then nI (t (p + 6)) - 48 else 0) 0 0 (zz_P p (zz_m t n p 5) 7) (zz_F (zz_m t n p 5) 7) (zz_P p (zz_m t n p 5) 7) = _
    rw [zz_P_n (by omega), hpl]
  · have hn := zz_m_n (t := t) (n := n) (p := p) (k := 5) (by omega)
    exact ⟨(zc_number h hK (k := 5) (by decide) hp (d := 5) (i := 0) (by decide) (by decide) (by decide) (by omega)).trans (by rw [if_pos (by omega)]), (zc_number h hK (k := 5) (by decide) hp (d := 6) (i := 1) (by decide) (by decide) (by decide) (by omega)).trans (by rw [if_pos (by omega)]), fun q => absurd q (by decide)⟩
theorem zm_rest6 (h : zz_Tx n t sg tx) (hK : 100 ≤ K) (hp : p ≤ 60) (hm : zz_wl 6 ≤ zz_m t n p 6) : ∃ y0 y1 y2 y3, (∀ {β : Type} (C : Int32 → Int32 → Int32 → Int32 → Int32 → Int32 → Int32 → Option β), zz_rc K n tx (nI (p + zz_wl 6)) 0 (nI 6) C = C y0 y1 y2 y3 (nI (p + zz_m t n p 6)) (zz_F (zz_m t n p 6) (zz_pl 6)) (nI (zz_ee t n p 6))) ∧ (zz_m t n p 6 = zz_pl 6 → f_X1_number K sg (nI n) (nI p) 0 6 = some y0 ∧ f_X1_number K sg (nI n) (nI p) 1 6 = some y1 ∧ (6 = 8 → f_X1_number K sg (nI n) (nI p) 2 6 = some y2 ∧ f_X1_number K sg (nI n) (nI p) 3 6 = some y3)) := by
  have hpl : zz_pl 6 = 8 := rfl
  have hwl : zz_wl 6 = 7 := rfl
  have hml := (zz_m_s (t := t) (n := n) (p := p) (k := 6)).1
  refine ⟨(if 7 + 1 ≤ zz_m t n p 6 then nI (t (p + 7)) - 48 else 0), 0, 0, 0, fun C => ?_, fun hfull => ?_⟩
  · have hs : zz_rc K n tx (nI (p + zz_wl 6)) 0 (nI 6) C = zz_rc K n tx (zz_P p (zz_m t n p 6) 7) (zz_F (zz_m t n p 6) 7) (nI 6) C := by rw [zz_P_y (by omega), zz_F_y (by omega), hwl]
    rw [hs, zz_rc, zm_digitS h hp (k := 6) (by decide) (q := 7) (by decide) (by decide), zz_b, f_X13_command_B26, if_neg (show ¬ (nI 6 = 3) by decide), zz_b, f_X13_command_B37, if_neg (show ¬ (nI 6 = 7) by decide), zz_b, f_X13_command_B49, if_neg (show ¬ (nI 6 = 8) by decide), zz_b, f_X13_command_B61, if_neg (show ¬ (nI 6 = 3) by decide), if_pos (show nI 6 = 6 by decide), zz_b, f_X13_command_B83, if_neg (show ¬ (nI 6 = 8) by decide), zz_b]
    rw [zm_L112_o (by omega) (by decide), zz_b, zz_ee_o (by decide)]
    show C (if 7 + 1 ≤ zz_m t n p 6 then nI (t (p + 7)) - 48 else 0) 0 0 0 (zz_P p (zz_m t n p 6) 8) (zz_F (zz_m t n p 6) 8) (zz_P p (zz_m t n p 6) 8) = _
    rw [zz_P_n (by omega), hpl]
  · have hn := zz_m_n (t := t) (n := n) (p := p) (k := 6) (by omega)
    exact ⟨(zc_number h hK (k := 6) (by decide) hp (d := 7) (i := 0) (by decide) (by decide) (by decide) (by omega)).trans (by rw [if_pos (by omega)]), zc_number0 hK (k := 6) (by decide) (i := 1) (by decide) (by decide), fun q => absurd q (by decide)⟩
theorem zm_rest7 (h : zz_Tx n t sg tx) (hK : 100 ≤ K) (hp : p ≤ 60) (hm : zz_wl 7 ≤ zz_m t n p 7) : ∃ y0 y1 y2 y3, (∀ {β : Type} (C : Int32 → Int32 → Int32 → Int32 → Int32 → Int32 → Int32 → Option β), zz_rc K n tx (nI (p + zz_wl 7)) 0 (nI 7) C = C y0 y1 y2 y3 (nI (p + zz_m t n p 7)) (zz_F (zz_m t n p 7) (zz_pl 7)) (nI (zz_ee t n p 7))) ∧ (zz_m t n p 7 = zz_pl 7 → f_X1_number K sg (nI n) (nI p) 0 7 = some y0 ∧ f_X1_number K sg (nI n) (nI p) 1 7 = some y1 ∧ (7 = 8 → f_X1_number K sg (nI n) (nI p) 2 7 = some y2 ∧ f_X1_number K sg (nI n) (nI p) 3 7 = some y3)) := by
  have hpl : zz_pl 7 = 8 := rfl
  have hwl : zz_wl 7 = 5 := rfl
  have hml := (zz_m_s (t := t) (n := n) (p := p) (k := 7)).1
  refine ⟨(if 5 + 1 ≤ zz_m t n p 7 then nI (t (p + 5)) - 48 else 0), (if 7 + 1 ≤ zz_m t n p 7 then nI (t (p + 7)) - 48 else 0), 0, 0, fun C => ?_, fun hfull => ?_⟩
  · have hs : zz_rc K n tx (nI (p + zz_wl 7)) 0 (nI 7) C = zz_rc K n tx (zz_P p (zz_m t n p 7) 5) (zz_F (zz_m t n p 7) 5) (nI 7) C := by rw [zz_P_y (by omega), zz_F_y (by omega), hwl]
    rw [hs, zz_rc, zm_digitS h hp (k := 7) (by decide) (q := 5) (by decide) (by decide), zz_b, f_X13_command_B26, if_neg (show ¬ (nI 7 = 3) by decide), zz_b, f_X13_command_B37, if_pos (show nI 7 = 7 by decide), zz_l32, zm_markS h hp (k := 7) (by decide) (q := 6) (by decide) (by decide) (by decide), zz_b, zz_b, f_X13_command_B49, if_neg (show ¬ (nI 7 = 8) by decide), zz_b, f_X13_command_B61, if_neg (show ¬ (nI 7 = 3) by decide), if_neg (show ¬ (nI 7 = 6) by decide), if_neg (show ¬ (nI 7 = 10) by decide), zm_digitS h hp (k := 7) (by decide) (q := 7) (by decide) (by decide), zz_b, zz_b, f_X13_command_B83, if_neg (show ¬ (nI 7 = 8) by decide), zz_b]
    rw [zm_L112_o (by omega) (by decide), zz_b, zz_ee_o (by decide)]
    show C (if 5 + 1 ≤ zz_m t n p 7 then nI (t (p + 5)) - 48 else 0) (if 7 + 1 ≤ zz_m t n p 7 then nI (t (p + 7)) - 48 else 0) 0 0 (zz_P p (zz_m t n p 7) 8) (zz_F (zz_m t n p 7) 8) (zz_P p (zz_m t n p 7) 8) = _
    rw [zz_P_n (by omega), hpl]
  · have hn := zz_m_n (t := t) (n := n) (p := p) (k := 7) (by omega)
    exact ⟨(zc_number h hK (k := 7) (by decide) hp (d := 5) (i := 0) (by decide) (by decide) (by decide) (by omega)).trans (by rw [if_pos (by omega)]), (zc_number h hK (k := 7) (by decide) hp (d := 7) (i := 1) (by decide) (by decide) (by decide) (by omega)).trans (by rw [if_pos (by omega)]), fun q => absurd q (by decide)⟩
theorem zm_rest8 (h : zz_Tx n t sg tx) (hK : 100 ≤ K) (hp : p ≤ 60) (hm : zz_wl 8 ≤ zz_m t n p 8) : ∃ y0 y1 y2 y3, (∀ {β : Type} (C : Int32 → Int32 → Int32 → Int32 → Int32 → Int32 → Int32 → Option β), zz_rc K n tx (nI (p + zz_wl 8)) 0 (nI 8) C = C y0 y1 y2 y3 (nI (p + zz_m t n p 8)) (zz_F (zz_m t n p 8) (zz_pl 8)) (nI (zz_ee t n p 8))) ∧ (zz_m t n p 8 = zz_pl 8 → f_X1_number K sg (nI n) (nI p) 0 8 = some y0 ∧ f_X1_number K sg (nI n) (nI p) 1 8 = some y1 ∧ (8 = 8 → f_X1_number K sg (nI n) (nI p) 2 8 = some y2 ∧ f_X1_number K sg (nI n) (nI p) 3 8 = some y3)) := by
  have hpl : zz_pl 8 = 10 := rfl
  have hwl : zz_wl 8 = 4 := rfl
  have hml := (zz_m_s (t := t) (n := n) (p := p) (k := 8)).1
  refine ⟨(if 4 + 1 ≤ zz_m t n p 8 then nI (t (p + 4)) - 48 else 0), (if 6 + 1 ≤ zz_m t n p 8 then nI (t (p + 6)) - 48 else 0), (if 7 + 1 ≤ zz_m t n p 8 then nI (t (p + 7)) - 48 else 0), (if 9 + 1 ≤ zz_m t n p 8 then nI (t (p + 9)) - 48 else 0), fun C => ?_, fun hfull => ?_⟩
  · have hs : zz_rc K n tx (nI (p + zz_wl 8)) 0 (nI 8) C = zz_rc K n tx (zz_P p (zz_m t n p 8) 4) (zz_F (zz_m t n p 8) 4) (nI 8) C := by rw [zz_P_y (by omega), zz_F_y (by omega), hwl]
    rw [hs, zz_rc, zm_digitS h hp (k := 8) (by decide) (q := 4) (by decide) (by decide), zz_b, f_X13_command_B26, if_neg (show ¬ (nI 8 = 3) by decide), zz_b, f_X13_command_B37, if_neg (show ¬ (nI 8 = 7) by decide), zz_b, f_X13_command_B49, if_pos (show nI 8 = 8 by decide), zz_l62, zm_markS h hp (k := 8) (by decide) (q := 5) (by decide) (by decide) (by decide), zz_b, zz_b, f_X13_command_B61, if_neg (show ¬ (nI 8 = 3) by decide), if_neg (show ¬ (nI 8 = 6) by decide), if_neg (show ¬ (nI 8 = 10) by decide), zm_digitS h hp (k := 8) (by decide) (q := 6) (by decide) (by decide), zz_b, zz_b, f_X13_command_B83, if_pos (show nI 8 = 8 by decide), zm_digitS h hp (k := 8) (by decide) (q := 7) (by decide) (by decide), zz_b, zz_l32, zm_markS h hp (k := 8) (by decide) (q := 8) (by decide) (by decide) (by decide), zz_b, zm_digitS h hp (k := 8) (by decide) (q := 9) (by decide) (by decide), zz_b, zz_b]
    rw [zm_L112_o (by omega) (by decide), zz_b, zz_ee_o (by decide)]
    show C (if 4 + 1 ≤ zz_m t n p 8 then nI (t (p + 4)) - 48 else 0) (if 6 + 1 ≤ zz_m t n p 8 then nI (t (p + 6)) - 48 else 0) (if 7 + 1 ≤ zz_m t n p 8 then nI (t (p + 7)) - 48 else 0) (if 9 + 1 ≤ zz_m t n p 8 then nI (t (p + 9)) - 48 else 0) (zz_P p (zz_m t n p 8) 10) (zz_F (zz_m t n p 8) 10) (zz_P p (zz_m t n p 8) 10) = _
    rw [zz_P_n (by omega), hpl]
  · have hn := zz_m_n (t := t) (n := n) (p := p) (k := 8) (by omega)
    exact ⟨(zc_number h hK (k := 8) (by decide) hp (d := 4) (i := 0) (by decide) (by decide) (by decide) (by omega)).trans (by rw [if_pos (by omega)]), (zc_number h hK (k := 8) (by decide) hp (d := 6) (i := 1) (by decide) (by decide) (by decide) (by omega)).trans (by rw [if_pos (by omega)]), fun _ => ⟨(zc_number h hK (k := 8) (by decide) hp (d := 7) (i := 2) (by decide) (by decide) (by decide) (by omega)).trans (by rw [if_pos (by omega)]), (zc_number h hK (k := 8) (by decide) hp (d := 9) (i := 3) (by decide) (by decide) (by decide) (by omega)).trans (by rw [if_pos (by omega)])⟩⟩
theorem zm_rest9 (h : zz_Tx n t sg tx) (hK : 100 ≤ K) (hp : p ≤ 60) (hm : zz_wl 9 ≤ zz_m t n p 9) : ∃ y0 y1 y2 y3, (∀ {β : Type} (C : Int32 → Int32 → Int32 → Int32 → Int32 → Int32 → Int32 → Option β), zz_rc K n tx (nI (p + zz_wl 9)) 0 (nI 9) C = C y0 y1 y2 y3 (nI (p + zz_m t n p 9)) (zz_F (zz_m t n p 9) (zz_pl 9)) (nI (zz_ee t n p 9))) ∧ (zz_m t n p 9 = zz_pl 9 → f_X1_number K sg (nI n) (nI p) 0 9 = some y0 ∧ f_X1_number K sg (nI n) (nI p) 1 9 = some y1 ∧ (9 = 8 → f_X1_number K sg (nI n) (nI p) 2 9 = some y2 ∧ f_X1_number K sg (nI n) (nI p) 3 9 = some y3)) := by
  have hpl : zz_pl 9 = 10 := rfl
  have hwl : zz_wl 9 = 8 := rfl
  have hml := (zz_m_s (t := t) (n := n) (p := p) (k := 9)).1
  refine ⟨(if 8 + 1 ≤ zz_m t n p 9 then nI (t (p + 8)) - 48 else 0), (if 9 + 1 ≤ zz_m t n p 9 then nI (t (p + 9)) - 48 else 0), 0, 0, fun C => ?_, fun hfull => ?_⟩
  · have hs : zz_rc K n tx (nI (p + zz_wl 9)) 0 (nI 9) C = zz_rc K n tx (zz_P p (zz_m t n p 9) 8) (zz_F (zz_m t n p 9) 8) (nI 9) C := by rw [zz_P_y (by omega), zz_F_y (by omega), hwl]
    rw [hs, zz_rc, zm_digitS h hp (k := 9) (by decide) (q := 8) (by decide) (by decide), zz_b, f_X13_command_B26, if_neg (show ¬ (nI 9 = 3) by decide), zz_b, f_X13_command_B37, if_neg (show ¬ (nI 9 = 7) by decide), zz_b, f_X13_command_B49, if_neg (show ¬ (nI 9 = 8) by decide), zz_b, f_X13_command_B61, if_neg (show ¬ (nI 9 = 3) by decide), if_neg (show ¬ (nI 9 = 6) by decide), if_neg (show ¬ (nI 9 = 10) by decide), zm_digitS h hp (k := 9) (by decide) (q := 9) (by decide) (by decide), zz_b, zz_b, f_X13_command_B83, if_neg (show ¬ (nI 9 = 8) by decide), zz_b]
    rw [zm_L112_o (by omega) (by decide), zz_b, zz_ee_o (by decide)]
    show C (if 8 + 1 ≤ zz_m t n p 9 then nI (t (p + 8)) - 48 else 0) (if 9 + 1 ≤ zz_m t n p 9 then nI (t (p + 9)) - 48 else 0) 0 0 (zz_P p (zz_m t n p 9) 10) (zz_F (zz_m t n p 9) 10) (zz_P p (zz_m t n p 9) 10) = _
    rw [zz_P_n (by omega), hpl]
  · have hn := zz_m_n (t := t) (n := n) (p := p) (k := 9) (by omega)
    exact ⟨(zc_number h hK (k := 9) (by decide) hp (d := 8) (i := 0) (by decide) (by decide) (by decide) (by omega)).trans (by rw [if_pos (by omega)]), (zc_number h hK (k := 9) (by decide) hp (d := 9) (i := 1) (by decide) (by decide) (by decide) (by omega)).trans (by rw [if_pos (by omega)]), fun q => absurd q (by decide)⟩
theorem zm_rest10 (h : zz_Tx n t sg tx) (hK : 100 ≤ K) (hp : p ≤ 60) (hm : zz_wl 10 ≤ zz_m t n p 10) : ∃ y0 y1 y2 y3, (∀ {β : Type} (C : Int32 → Int32 → Int32 → Int32 → Int32 → Int32 → Int32 → Option β), zz_rc K n tx (nI (p + zz_wl 10)) 0 (nI 10) C = C y0 y1 y2 y3 (nI (p + zz_m t n p 10)) (zz_F (zz_m t n p 10) (zz_pl 10)) (nI (zz_ee t n p 10))) ∧ (zz_m t n p 10 = zz_pl 10 → f_X1_number K sg (nI n) (nI p) 0 10 = some y0 ∧ f_X1_number K sg (nI n) (nI p) 1 10 = some y1 ∧ (10 = 8 → f_X1_number K sg (nI n) (nI p) 2 10 = some y2 ∧ f_X1_number K sg (nI n) (nI p) 3 10 = some y3)) := by
  have hpl : zz_pl 10 = 5 := rfl
  have hwl : zz_wl 10 = 4 := rfl
  have hml := (zz_m_s (t := t) (n := n) (p := p) (k := 10)).1
  refine ⟨(if 4 + 1 ≤ zz_m t n p 10 then nI (t (p + 4)) - 48 else 0), 0, 0, 0, fun C => ?_, fun hfull => ?_⟩
  · have hs : zz_rc K n tx (nI (p + zz_wl 10)) 0 (nI 10) C = zz_rc K n tx (zz_P p (zz_m t n p 10) 4) (zz_F (zz_m t n p 10) 4) (nI 10) C := by rw [zz_P_y (by omega), zz_F_y (by omega), hwl]
    rw [hs, zz_rc, zm_digitS h hp (k := 10) (by decide) (q := 4) (by decide) (by decide), zz_b, f_X13_command_B26, if_neg (show ¬ (nI 10 = 3) by decide), zz_b, f_X13_command_B37, if_neg (show ¬ (nI 10 = 7) by decide), zz_b, f_X13_command_B49, if_neg (show ¬ (nI 10 = 8) by decide), zz_b, f_X13_command_B61, if_neg (show ¬ (nI 10 = 3) by decide), if_neg (show ¬ (nI 10 = 6) by decide), if_pos (show nI 10 = 10 by decide), zz_b, f_X13_command_B83, if_neg (show ¬ (nI 10 = 8) by decide), zz_b]
    rw [zm_L112_o (by omega) (by decide), zz_b, zz_ee_o (by decide)]
    show C (if 4 + 1 ≤ zz_m t n p 10 then nI (t (p + 4)) - 48 else 0) 0 0 0 (zz_P p (zz_m t n p 10) 5) (zz_F (zz_m t n p 10) 5) (zz_P p (zz_m t n p 10) 5) = _
    rw [zz_P_n (by omega), hpl]
  · have hn := zz_m_n (t := t) (n := n) (p := p) (k := 10) (by omega)
    exact ⟨(zc_number h hK (k := 10) (by decide) hp (d := 4) (i := 0) (by decide) (by decide) (by decide) (by omega)).trans (by rw [if_pos (by omega)]), zc_number0 hK (k := 10) (by decide) (i := 1) (by decide) (by decide), fun q => absurd q (by decide)⟩
theorem zm_rest (h : zz_Tx n t sg tx) (hK : 100 ≤ K) (hp : p ≤ 60) : ∀ k, k < 11 → zz_wl k ≤ zz_m t n p k → ∃ y0 y1 y2 y3, (∀ {β : Type} (C : Int32 → Int32 → Int32 → Int32 → Int32 → Int32 → Int32 → Option β), zz_rc K n tx (nI (p + zz_wl k)) 0 (nI k) C = C y0 y1 y2 y3 (nI (p + zz_m t n p k)) (zz_F (zz_m t n p k) (zz_pl k)) (nI (zz_ee t n p k))) ∧ (zz_m t n p k = zz_pl k → f_X1_number K sg (nI n) (nI p) 0 k = some y0 ∧ f_X1_number K sg (nI n) (nI p) 1 k = some y1 ∧ (k = 8 → f_X1_number K sg (nI n) (nI p) 2 k = some y2 ∧ f_X1_number K sg (nI n) (nI p) 3 k = some y3))
  | 0, _, hm => zm_rest0 h hK hp hm
  | 1, _, hm => zm_rest1 h hK hp hm
  | 2, _, hm => zm_rest2 h hK hp hm
  | 3, _, hm => zm_rest3 h hK hp hm
  | 4, _, hm => zm_rest4 h hK hp hm
  | 5, _, hm => zm_rest5 h hK hp hm
  | 6, _, hm => zm_rest6 h hK hp hm
  | 7, _, hm => zm_rest7 h hK hp hm
  | 8, _, hm => zm_rest8 h hK hp hm
  | 9, _, hm => zm_rest9 h hK hp hm
  | 10, _, hm => zm_rest10 h hK hp hm
  | k + 11, hk, _ => absurd hk (by omega)
theorem zz_kd_y (h : zz_kd t n p = some k) : k < 11 ∧ zz_m t n p k = zz_pl k := by
  obtain ⟨h1, h2, _⟩ := zz_fi_some h
  exact ⟨h1, of_decide_eq_true h2⟩
theorem zz_hi_k (hk : k < 11) (hm : zz_wl k ≤ zz_m t n p k) : zz_hi (zz_m t n p) 11 = zz_m t n p k := by
  have h1 := zz_hi_ge (f := zz_m t n p) (i := 11) k hk
  rcases zz_hi_in (f := zz_m t n p) (i := 11) with q | ⟨j, q1, q2⟩
  · omega
  · by_cases e : j = k
    · rw [← q2, e]
    · have := (zz_uni hk q1 e hm).1
      omega
theorem zm_cmd_n (h : zz_Tx n t sg tx) (hw : zz_Wd wd wa) (hK : 100 ≤ K) (hp : p ≤ 60) (hkd : zz_kd t n p = none) (il : Nat → Int32) (th tX tY tM d : Int32) : ∃ il', f_X13_command K th v far scratch tX tY tM tx il wd wa (nI p) (nI n) 0 d = some (th, v, far, scratch, tX, tY, tM, il', nI (p + zz_hi (zz_m t n p) 11), 1) := by
  cases e : zz_fi (fun k => decide (zz_wl k ≤ zz_m t n p k)) 11 with
  | none =>
    obtain ⟨il', e1⟩ := zm_word_n h hw hK hp (fun k hk => by have := of_decide_eq_false (zz_fi_none e k hk); omega) il
    refine ⟨il', ?_⟩
    rw [f_X13_command, e1, zz_b, if_neg (show ¬ ((1 : Int32) = 0) by decide)]
  | some k =>
    obtain ⟨hk, hk2, _⟩ := zz_fi_some e
    have hm := of_decide_eq_true hk2
    have hml := (zz_m_s (t := t) (n := n) (p := p) (k := k)).1
    have hne : zz_m t n p k ≠ zz_pl k := of_decide_eq_false (zz_fi_none hkd k hk)
    obtain ⟨il', e1⟩ := zm_word_y h hw hK hp hk hm il
    obtain ⟨y0, y1, y2, y3, r1, r2⟩ := zm_rest h hK hp k hk hm
    refine ⟨il', ?_⟩
    rw [f_X13_command, e1, zz_b, if_pos rfl]
    refine Eq.trans (r1 (fun y0 y1 y2 y3 x4 w e => if w = 0 then if d = 0 then some (th, v, far, scratch, tX, tY, tM, il', e, w) else if nI k = 8 then (f_X13_find K v y0).bind fun q172 => (f_X13_plans K th v far scratch tX tY q172 y1 y2 y3).bind fun q179 => some (q179.2.1, q179.2.2.1, q179.2.2.2.1, q179.2.2.2.2.1, q179.2.2.2.2.2.1, q179.2.2.2.2.2.2, tM, il', e, w) else (f_X13_does K th v scratch tX tY tM tx e (nI k) y0 y1 x4).bind fun q192 => some (q192.2.1, q192.2.2.1, far, q192.2.2.2.1, q192.2.2.2.2.1, q192.2.2.2.2.2.1, q192.2.2.2.2.2.2, il', e, w) else some (th, v, far, scratch, tX, tY, tM, il', e, w))) ?_
    have hee : zz_ee t n p k = p + zz_m t n p k := if_neg hne
    rw [zz_F_n (by omega), if_neg (by decide), hee, zz_hi_k hk hm]
theorem zm_cmd_0 (h : zz_Tx n t sg tx) (hw : zz_Wd wd wa) (hK : 100 ≤ K) (hp : p ≤ 60) (hkd : zz_kd t n p = some k) (il : Nat → Int32) (th tX tY tM : Int32) : ∃ il', f_X13_command K th v far scratch tX tY tM tx il wd wa (nI p) (nI n) 0 0 = some (th, v, far, scratch, tX, tY, tM, il', nI (zz_en t n p k), 0) := by
  obtain ⟨hk, hk2⟩ := zz_kd_y hkd
  obtain ⟨_, _, _, _, b5, _⟩ := zz_pat1 k hk
  have hm : zz_wl k ≤ zz_m t n p k := by omega
  obtain ⟨il', e1⟩ := zm_word_y h hw hK hp hk hm il
  obtain ⟨y0, y1, y2, y3, r1, r2⟩ := zm_rest h hK hp k hk hm
  refine ⟨il', ?_⟩
  rw [f_X13_command, e1, zz_b, if_pos rfl]
  refine Eq.trans (r1 (fun y0 y1 y2 y3 x4 w e => if w = 0 then if (0 : Int32) = 0 then some (th, v, far, scratch, tX, tY, tM, il', e, w) else if nI k = 8 then (f_X13_find K v y0).bind fun q172 => (f_X13_plans K th v far scratch tX tY q172 y1 y2 y3).bind fun q179 => some (q179.2.1, q179.2.2.1, q179.2.2.2.1, q179.2.2.2.2.1, q179.2.2.2.2.2.1, q179.2.2.2.2.2.2, tM, il', e, w) else (f_X13_does K th v scratch tX tY tM tx e (nI k) y0 y1 x4).bind fun q192 => some (q192.2.1, q192.2.2.1, far, q192.2.2.2.1, q192.2.2.2.2.1, q192.2.2.2.2.2.1, q192.2.2.2.2.2.2, il', e, w) else some (th, v, far, scratch, tX, tY, tM, il', e, w))) ?_
  have hee : zz_ee t n p k = zz_en t n p k := if_pos hk2
  rw [zz_F_y (by omega), if_pos rfl, if_pos rfl, hee]
theorem zm_cmd_1 (h : zz_Tx n t sg tx) (hw : zz_Wd wd wa) (hK : 100 ≤ K) (hp : p ≤ 60) (hkd : zz_kd t n p = some k) (il : Nat → Int32) (tX tY tM : Int32) : ∃ il' y0 y1 y2 y3, f_X13_command K 0 v far scratch tX tY tM tx il wd wa (nI p) (nI n) 0 1 = zz_mdo K v far scratch tX tY tM tx il' (nI (zz_en t n p k)) (nI k) y0 y1 y2 y3 (nI (p + zz_pl k)) 0 ∧ f_X1_number K sg (nI n) (nI p) 0 k = some y0 ∧ f_X1_number K sg (nI n) (nI p) 1 k = some y1 ∧ (k = 8 → f_X1_number K sg (nI n) (nI p) 2 k = some y2 ∧ f_X1_number K sg (nI n) (nI p) 3 k = some y3) := by
  obtain ⟨hk, hk2⟩ := zz_kd_y hkd
  obtain ⟨_, _, _, _, b5, _⟩ := zz_pat1 k hk
  have hm : zz_wl k ≤ zz_m t n p k := by omega
  obtain ⟨il', e1⟩ := zm_word_y h hw hK hp hk hm il
  obtain ⟨y0, y1, y2, y3, r1, r2⟩ := zm_rest h hK hp k hk hm
  obtain ⟨s1, s2, s3⟩ := r2 hk2
  refine ⟨il', y0, y1, y2, y3, ?_, s1, s2, s3⟩
  rw [f_X13_command, e1, zz_b, if_pos rfl]
  refine Eq.trans (r1 (fun y0 y1 y2 y3 x4 w e => if w = 0 then if (1 : Int32) = 0 then some (0, v, far, scratch, tX, tY, tM, il', e, w) else if nI k = 8 then (f_X13_find K v y0).bind fun q172 => (f_X13_plans K 0 v far scratch tX tY q172 y1 y2 y3).bind fun q179 => some (q179.2.1, q179.2.2.1, q179.2.2.2.1, q179.2.2.2.2.1, q179.2.2.2.2.2.1, q179.2.2.2.2.2.2, tM, il', e, w) else (f_X13_does K 0 v scratch tX tY tM tx e (nI k) y0 y1 x4).bind fun q192 => some (q192.2.1, q192.2.2.1, far, q192.2.2.2.1, q192.2.2.2.2.1, q192.2.2.2.2.2.1, q192.2.2.2.2.2.2, il', e, w) else some (0, v, far, scratch, tX, tY, tM, il', e, w))) ?_
  have hee : zz_ee t n p k = zz_en t n p k := if_pos hk2
  rw [zz_F_y (by omega), if_pos rfl, if_neg (by decide), hee, hk2]
  rfl
theorem zc_endIn (h : zz_Tx n t sg tx) (hK : 100 ≤ K) (hp : p ≤ 60) (hkd : zz_kd t n p = some k) : f_X1_endIn K sg (nI n) (nI p) k = some (nI (zz_en t n p k)) ∧ p + 5 ≤ zz_en t n p k ∧ zz_en t n p k ≤ n := by
  obtain ⟨hk, hk2⟩ := zz_kd_y hkd
  obtain ⟨a1, a2, a3, a4, _⟩ := zz_pat1 k hk
  have hn := zz_m_n (t := t) (n := n) (p := p) (k := k) (by omega)
  rw [f_X1_endIn, a1, nI_add]
  unfold zz_en
  by_cases e : k = 3
  · obtain ⟨e1, e2, _⟩ := zz_em_s (t := t) (n := n) (i := p + zz_pl k) (by omega)
    rw [if_pos e, if_pos e, zc_endMoves h hK (by omega)]
    exact ⟨rfl, by omega, e2⟩
  · rw [if_neg e, if_neg e]
    exact ⟨rfl, by omega, by omega⟩
end ZRS
