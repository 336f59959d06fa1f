-- what is left of the asking: shares, means, agreements, undo, save and restore
section ZMI
variable {S : Nat → Nat} {B K : Nat} {st nu ce fa mo le lc ls : Nat → Int32} {ct br fc nx to re me ll fg ln : Int32} {v past : Nat → Int32} {M U : mm_MV} {sl : Nat → mm_MV} {f m ch : Int32}
def zz_oc (S : Nat → Nat) : Nat := zz_sm (fun c => if zz_op S c = true then 1 else 0) 81
theorem zz_oc_le : zz_oc S < 82 := by
  have := zz_sm_b (f := fun c => if zz_op S c = true then 1 else 0) (m := 1) (n := 81) (fun j _ => by show (if _ then 1 else 0) ≤ 1; split <;> omega)
  show zz_sm _ 81 < 82
  omega
theorem zc_openCells (hs : ∀ c, c < 81 → st c = nI (S (7 + c))) (hr : ∀ c, c < 81 → S (7 + c) < 3) (hK : 100 ≤ K) : f_X9_openCells K st = some (nI (zz_oc S)) := by
  have hL : f_X9_openCells_L4 st K (nI 0) (nI 0) = some (nI (zz_oc S)) := by
    refine zz_for0 (fun K' i (a : Int32) => f_X9_openCells_L4 st K' a (nI i)) 81 (fun i a => a = nI (zz_sm (fun c => if zz_op S c = true then 1 else 0) i)) (fun z => z = some (nI (zz_oc S))) ?_ ?_ K (nI 0) (by omega) rfl
    · intro k a ha
      show f_X9_openCells_L4 st (k + 1) a (nI 81) = _
      rw [f_X9_openCells_L4, if_pos (by decide), ha]
      rfl
    · intro k i a hi ha ih
      show f_X9_openCells_L4 st (k + 1) a (nI i) = _
      rw [f_X9_openCells_L4, zz_l81, if_neg (nI_ge hi (by decide)), zc_isOpen hs hr hi, zz_b]
      by_cases e : zz_op S i = true
      · rw [e, zz_Bt, if_neg (by decide), ha, nI_1, nI_1]
        refine ih _ ?_
        show _ = nI (_ + (if zz_op S i = true then 1 else 0))
        rw [if_pos e]
      · have e2 : zz_op S i = false := by simpa using e
        rw [e2, zz_Bf, if_pos rfl, ha, zz_l0, nI_add, nI_1]
        refine ih _ ?_
        show _ = nI (_ + (if zz_op S i = true then 1 else 0))
        rw [if_neg e]
  rw [f_X9_openCells]
  show (f_X9_openCells_L4 st K (nI 0) (nI 0)).bind _ = _
  rw [hL]
  rfl
theorem zm_share (hM : zz_Pm S v) (hr : ∀ c, c < 81 → S (7 + c) < 3) (hK : 100 ≤ K) : f_X13_passableShare_L9 v K (nI 0) (nI 0) = some (nI (zz_oc S)) := by
  refine zz_for0 (fun K' i (a : Int32) => f_X13_passableShare_L9 v K' a (nI i)) 81 (fun i a => a = nI (zz_sm (fun c => if zz_op S c = true then 1 else 0) i)) (fun z => z = some (nI (zz_oc S))) ?_ ?_ K (nI 0) (by omega) rfl
  · intro k a ha
    show f_X13_passableShare_L9 v (k + 1) a (nI 81) = _
    rw [f_X13_passableShare_L9, if_pos (by decide), ha]
    rfl
  · intro k i a hi ha ih
    show f_X13_passableShare_L9 v (k + 1) a (nI i) = _
    rw [f_X13_passableShare_L9, zz_l81, if_neg (nI_ge hi (by decide)), zm_isFree hM hr hi, zz_b]
    by_cases e : zz_op S i = true
    · rw [e, zz_Bt, if_neg (by decide), ha, nI_1, nI_1]
      refine ih _ ?_
      show _ = nI (_ + (if zz_op S i = true then 1 else 0))
      rw [if_pos e]
    · have e2 : zz_op S i = false := by simpa using e
      rw [e2, zz_Bf, if_pos rfl, ha, zz_l0, nI_add, nI_1]
      refine ih _ ?_
      show _ = nI (_ + (if zz_op S i = true then 1 else 0))
      rw [if_neg e]
def zz_shv (S : Nat → Nat) : UInt32 := FP.fdiv (FP.i2f (nI (zz_oc S))) 1117913088
theorem zp_share (ir : zz_Ir S) (pr : zz_Pr S st ct br) (hM : zz_Pm S v) (hK : 100 ≤ K) : f_X12_passableShare K st = some (zz_shv S) ∧ f_X13_passableShare K v = some (zz_shv S, 0) := by
  have h := (zz_share _ (zz_oc_le (S := S))).1
  constructor
  · rw [f_X12_passableShare, zc_openCells pr.1 ir.2.2 hK, zz_b, zz_d h]
    rfl
  · rw [f_X13_passableShare]
    show (f_X13_passableShare_L9 v K (nI 0) (nI 0)).bind _ = _
    rw [zm_share hM ir.2.2 hK, zz_b, zz_d h]
    rfl
theorem zp_mean (ib : zz_Ib B S) (pb : zz_Pb S nu ce fa fc nx to re me) (hM : zz_Pm S v) (hK : 10 ≤ K) : ∃ cc z e, f_X12_meanFares K fa fc = some (cc, z) ∧ f_X13_meanFares K v = some (z, e) ∧ zz_np z.toNat ∧ ((cc = 0 ∧ e = 0) ∨ (cc = 6 ∧ e = 1)) := by
  obtain ⟨p1, p2, p3, rfl, p5, p6, p7, p8⟩ := pb
  have h4 := ib.2.1
  have hv3 : v 3 = nI (S 3) := hM 3 (by decide)
  by_cases e : S 3 = 0
  · refine ⟨6, 0, 1, ?_, ?_, (by unfold zz_np; decide), Or.inr ⟨rfl, rfl⟩⟩
    · rw [f_X12_meanFares, e, if_pos (by first | rfl | decide)]
    · rw [f_X13_meanFares, hv3, e, if_pos (by first | rfl | decide)]
  · have hz := zz_ddiv (nI (zz_fs S)) (b := S 3) (by omega) (by omega)
    refine ⟨0, FP.ddiv (FP.i2d (nI (zz_fs S))) (FP.i2d (nI (S 3))), 0, ?_, ?_, hz, Or.inl ⟨rfl, rfl⟩⟩
    · rw [f_X12_meanFares, zz_l0, if_neg (zz_ne e (by omega) (by decide)), zc_present p3 h4 hK, zz_b, zz_d (zz_np_mask hz)]
    · rw [f_X13_meanFares, hv3, zz_l0, if_neg (zz_ne e (by omega) (by decide)), zm_fares hM h4 hK, zz_b, zz_d (zz_np_mask hz)]
theorem zp_total (ib : zz_Ib B S) (pb : zz_Pb S nu ce fa fc nx to re me) (hM : zz_Pm S v) (hK : 10 ≤ K) : f_X12_fareTotal to = some (nI (zz_fs S + S 5)) ∧ f_X12_fareTotalByBoats K fa fc re = some (nI (zz_fs S + S 5)) ∧ f_X13_fareTotal K v = some (nI (zz_fs S + S 5), 0) ∧ f_X13_fareTotalByBoats K v = some (nI (zz_fs S + S 5), 0) := by
  obtain ⟨p1, p2, p3, rfl, p5, rfl, rfl, p8⟩ := pb
  have h4 := ib.2.1
  have h3 : f_X13_fareTotal K v = some (nI (zz_fs S + S 5), 0) := by
    rw [f_X13_fareTotal, zm_fares hM h4 hK, zz_b, hM 5 (by decide), nI_add]
  refine ⟨rfl, ?_, h3, ?_⟩
  · rw [f_X12_fareTotalByBoats, zc_present p3 h4 hK, zz_b, nI_add]
  · rw [f_X13_fareTotalByBoats, h3, zz_b]
def zz_Tx (n : Nat) (t : Nat → Nat) (sg tx : Nat → Int32) : Prop := n ≤ 60 ∧ ∀ k, k < n → 32 ≤ t k ∧ t k ≤ 126 ∧ sg k = nI (t k) ∧ tx k = nI (t k)
theorem zp_append {n : Nat} {t : Nat → Nat} {tx : Nat → Int32} {sg : Nat → Int32} (h : zz_Tx n t sg tx) {x : Nat} (hx : x < 65536) : (∃ cc e, f_X12_append sg (nI n) (nI x) = some (cc, 0, sg, nI n) ∧ f_X13_append tx (nI n) (nI x) = some (0, e, tx, nI n) ∧ ((cc = 4 ∧ e = 1) ∨ (cc = 3 ∧ e = 2))) ∨ (n < 60 ∧ ∃ sg' tx', f_X12_append sg (nI n) (nI x) = some (0, nI (n + 1), sg', nI (n + 1)) ∧ f_X13_append tx (nI n) (nI x) = some (nI (n + 1), 0, tx', nI (n + 1)) ∧ zz_Tx (n + 1) (zz_u t n x) sg' tx') := by
  obtain ⟨hn, h⟩ := h
  rw [f_X12_append, f_X13_append, f_X13_isIn, zz_l32, zz_l126]
  by_cases e1 : x < 32
  · left
    refine ⟨4, 1, ?_, ?_, Or.inl ⟨rfl, rfl⟩⟩
    · rw [if_pos (nI_lt e1 (by decide))]
    · rw [if_pos (nI_lt e1 (by decide)), zz_b, if_pos rfl]
  · by_cases e2 : x ≤ 126
    · rw [if_neg (nI_nlt (by omega) (by omega)), if_pos (nI_le e2 (by decide)), if_neg (nI_nlt (by omega) (by omega)), if_neg (nI_nlt e2 (by omega)), zz_b, if_neg (show ¬ ((1 : Int32) = 0) by decide), zz_l60]
      by_cases e3 : n = 60
      · left
        refine ⟨3, 2, ?_, ?_, Or.inr ⟨rfl, rfl⟩⟩
        · rw [if_neg (nI_nlt (by omega) (by omega))]
        · rw [if_pos (congrArg nI e3)]
      · right
        refine ⟨by omega, upd sg n (nI x), upd tx n (nI x), ?_, ?_, by omega, fun k hk => ?_⟩
        · rw [if_pos (nI_lt (by omega) (by decide)), zc_put (by omega) (by omega), zz_b]
        · rw [if_neg (zz_ne e3 (by omega) (by decide)), zz_g (by omega) (by decide), nI_clamp (by omega), nI_1]
        · rw [zz_upd, zz_upd, zz_uv]
          by_cases e : k = n
          · rw [if_pos e, if_pos e, if_pos e]
            exact ⟨by omega, e2, rfl, rfl⟩
          · rw [if_neg e, if_neg e, if_neg e]
            exact h k (by omega)
    · left
      refine ⟨4, 1, ?_, ?_, Or.inl ⟨rfl, rfl⟩⟩
      · rw [if_neg (nI_nlt (by omega) (by omega)), if_neg (nI_ge (by omega) (by omega))]
      · rw [if_neg (nI_nlt (by omega) (by omega)), if_pos (nI_lt (by omega) (by omega)), zz_b, if_pos rfl]
theorem zc_agree (hK : 100 ≤ K) {g h : Nat → Int32} (e : ∀ c, c < 81 → g c = h c) : f_X11_resultsAgree K g h = some 1 := by
  rw [f_X11_resultsAgree]
  show f_X11_resultsAgree_L2 g h K (nI 0) = _
  refine zz_for0 (fun K' i (_ : Unit) => f_X11_resultsAgree_L2 g h K' (nI i)) 81 (fun _ _ => True) (fun z => z = some 1) ?_ ?_ K () (by omega) trivial
  · intro k _ _
    show f_X11_resultsAgree_L2 g h (k + 1) (nI 81) = _
    rw [f_X11_resultsAgree_L2, if_pos (by decide)]
  · intro k i _ hi _ ih
    show f_X11_resultsAgree_L2 g h (k + 1) (nI i) = _
    rw [f_X11_resultsAgree_L2, zz_l81, if_neg (nI_ge hi (by decide)), zz_g hi (by decide), zz_g hi (by decide), nI_clamp (by omega), if_pos (e i hi), nI_1]
    exact ih () trivial
theorem zz_is_g {o : Nat → Bool} {w : Nat → Nat} {s F : Nat} {g h : Nat → Int32} (a : zz_is o w s F g) (b : zz_is o w s F h) : ∀ c, c < 81 → g c = h c := by
  intro c hc
  rcases zz_is_eq a b hc with ⟨d, _, e1, e2, _⟩ | ⟨e1, e2, _⟩
  · rw [e1, e2]
  · rw [e1, e2]
theorem zc_wagree (hK : 1000 ≤ K) (ir : zz_Ir S) (ib : zz_Ib B S) (io : zz_Io S) (jf : zz_If S) (pr : zz_Pr S st ct br) (pb : zz_Pb S nu ce fa fc nx to re me) (tl qu hp fo im : Nat → Int32) (hz : Int32) : ∃ a b c d e g, f_X12_waysAgree K st ce fc (nI (S 1)) tl qu hp hz fo im = some (1, a, b, c, d, e, g) := by
  obtain ⟨p1, p2, p3, rfl, p5, p6, p7, p8⟩ := pb
  have h4 := ib.2.1
  rw [f_X12_waysAgree]
  refine zz_for0 (fun K' i (r : (Nat → Int32) × (Nat → Int32) × (Nat → Int32) × Int32 × (Nat → Int32) × (Nat → Int32)) => f_X12_waysAgree_L2 K st ce (nI (S 3)) (nI (S 1)) K' (nI i) r.1 r.2.1 r.2.2.1 r.2.2.2.1 r.2.2.2.2.1 r.2.2.2.2.2) (S 3) (fun _ _ => True) (fun z => ∃ a b c d e g, z = some (1, a, b, c, d, e, g)) ?_ ?_ K (tl, qu, hp, hz, fo, im) (by omega) trivial
  · intro k r _
    refine ⟨r.1, r.2.1, r.2.2.1, r.2.2.2.1, r.2.2.2.2.1, r.2.2.2.2.2, ?_⟩
    show f_X12_waysAgree_L2 K st ce (nI (S 3)) (nI (S 1)) (k + 1) (nI (S 3)) r.1 r.2.1 r.2.2.1 r.2.2.2.1 r.2.2.2.2.1 r.2.2.2.2.2 = _
    rw [f_X12_waysAgree_L2, if_pos (nI_le (Nat.le_refl _) (by omega))]
  · intro k i r hi _ ih
    show ∃ a b c d e g, f_X12_waysAgree_L2 K st ce (nI (S 3)) (nI (S 1)) (k + 1) (nI i) r.1 r.2.1 r.2.2.1 r.2.2.2.1 r.2.2.2.2.1 r.2.2.2.2.2 = _
    have hc := zz_Ib_c ib hi
    have ho := io i hi
    have hw1 : ∀ c, c < 81 → (fun _ : Nat => 1) c ≤ 2 := fun _ _ => (by decide : 1 ≤ 2)
    obtain ⟨t1, a1, a2⟩ := zc_plain pr.1 ir.2.2 (by omega : 100 ≤ K) r.1
    obtain ⟨q1, f1, b1, b2, _⟩ := zc_breadth (by omega : 100 ≤ K) a2 hc r.2.1 r.2.2.2.2.1
    obtain ⟨m1, c1, c2⟩ := zc_rounds (by omega : 100 ≤ K) a2 hw1 hc ho r.2.2.2.2.2
    obtain ⟨t2, d1, d2⟩ := zc_fogt pr.1 ir.2.2 jf (by omega : 100 ≤ K) t1
    obtain ⟨h2, n2, f2, e1, e2⟩ := zc_heap hK d2 (zz_wf_le S) hc ho r.2.2.1 f1
    obtain ⟨m2, g1, g2⟩ := zc_rounds (by omega : 100 ≤ K) d2 (zz_wf_le S) hc ho m1
    rw [f_X12_waysAgree_L2, if_neg (nI_ge hi (by omega)), zz_g (by omega) (by decide), nI_clamp (by omega), p2 i hi, a1, zz_b, b1, zz_b, c1, zz_b, zc_agree (by omega) (zz_is_g (b2 ho) c2), zz_b, if_neg (by decide), d1, zz_b, e1, zz_b, g1, zz_b, zc_agree (by omega) (zz_is_g e2 g2), zz_b, if_neg (by decide), nI_1]
    exact ih (_, _, _, _, _, _) trivial
theorem zc_ragree (ip : zz_Ip S) (pp : zz_Pp S mo le) (hK : 100 ≤ K) (sp : Nat → Int32) : ∃ sp', f_X12_reductionsAgree K mo le sp = some (1, sp') := by
  rw [f_X12_reductionsAgree]
  refine zz_for0 (fun K' i (r : Nat → Int32) => f_X12_reductionsAgree_L2 K mo le K' (nI i) r) 6 (fun _ _ => True) (fun z => ∃ a, z = some (1, a)) ?_ ?_ K sp (by omega) trivial
  · intro k r _
    refine ⟨r, ?_⟩
    show f_X12_reductionsAgree_L2 K mo le (k + 1) (nI 6) r = _
    rw [f_X12_reductionsAgree_L2, if_pos (by decide)]
  · intro k i r hi _ ih
    show ∃ a, f_X12_reductionsAgree_L2 K mo le (k + 1) (nI i) r = _
    obtain ⟨r1, a1⟩ := zc_stackL (f := fun j => S (110 + 20 * i + j)) hi (ip.1 i hi) hK (pp.1 i hi) (fun j hj => pp.2 i j hi hj) (fun j hj => ip.2 i j hi hj) r
    obtain ⟨r2, a2⟩ := zc_pairs (f := fun j => S (110 + 20 * i + j)) hi (ip.1 i hi) hK (pp.1 i hi) (fun j hj => pp.2 i j hi hj) (fun j hj => ip.2 i j hi hj) r1
    rw [f_X12_reductionsAgree_L2, zz_l6, if_neg (nI_ge hi (by decide)), a1, zz_b, a2, zz_b, if_pos rfl, nI_1]
    exact ih _ trivial
theorem zc_consistent (hK : 1000 ≤ K) (hi : zz_Inv B S) (hc : zz_Pc S M) (tl qu hp fo im cs bs sp : Nat → Int32) (hz : Int32) : ∃ a b c d e g h i j, f_X12_isConsistent K M.1 M.2.2.2.2.1 M.2.2.2.2.2.1 M.2.2.2.2.2.2.1 M.2.2.2.2.2.2.2.2.1 M.2.2.2.2.2.2.2.2.2.1 M.2.2.2.2.2.2.2.2.2.2.2.1 M.2.2.2.2.2.2.2.2.2.2.2.2.1 M.2.2.2.2.2.2.2.2.2.2.2.2.2.1 M.2.2.2.2.2.2.2.2.2.2.2.2.2.2.1 M.2.2.2.2.2.2.2.2.2.2.2.2.2.2.2 tl qu hp hz fo im cs bs sp = some (1, a, b, c, d, e, g, h, i, j) := by
  obtain ⟨ir, ib, io, ip, il, jf⟩ := hi
  obtain ⟨pr, pb, pp, pl, pf⟩ := hc
  have pf : M.2.2.2.2.2.2.2.2.2.2.2.2.2.2.2 = nI (S 1) := pf
  obtain ⟨a, b, c, d, e, g, w⟩ := zc_wagree hK ir ib io jf pr pb tl qu hp fo im hz
  obtain ⟨j, w2⟩ := zc_ragree ip pp (by omega : 100 ≤ K) sp
  obtain ⟨h, i, w3⟩ := zp_pagree hK il pl cs bs
  refine ⟨a, b, c, d, e, g, h, i, j, ?_⟩
  have w4 : ∃ y, f_X12_fareTotal M.2.2.2.2.2.2.2.2.1 = some y ∧ f_X12_fareTotalByBoats K M.2.2.2.2.2.1 M.2.2.2.2.2.2.1 M.2.2.2.2.2.2.2.2.2.1 = some y := by
    obtain ⟨p1, p2, p3, p4, p5, p6, p7, p8⟩ := pb
    refine ⟨nI (zz_fs S + S 5), by rw [f_X12_fareTotal, p6], ?_⟩
    rw [f_X12_fareTotalByBoats, p4, p7, zc_present p3 ib.2.1 (by omega), zz_b, nI_add]
  obtain ⟨y, w4, w5⟩ := w4
  rw [f_X12_isConsistent, pf, w, zz_b, if_neg (show ¬ ((1 : Int32) = 0) by decide), zc_odd pr.1 ir.2.2 (by omega), zz_b, zc_oddRows pr.1 ir.2.2 (by omega), zz_b, if_pos rfl, w2, zz_b, if_neg (show ¬ ((1 : Int32) = 0) by decide), w3, zz_b, if_neg (show ¬ ((1 : Int32) = 0) by decide), w4, zz_b, w5, zz_b, if_pos rfl]
theorem zm_consistent (hi : zz_Inv B S) (hM : zz_Pm S v) : f_X13_isConsistent v = some (1, 0) := by
  have h1 := hi.1.2.1
  have h2 := hi.2.1.2.1
  rw [f_X13_isConsistent, hM 0 (by decide), hM 3 (by decide), zz_l30, zz_l4, if_neg (nI_nlt h1 (by omega)), if_neg (nI_nlt h2 (by omega))]
theorem zm_undoL {n : Nat} (hn : n < 8) (hK : 300 ≤ K) (past v : Nat → Int32) : ∃ w, f_X13_undo_L37 (nI n) past K 0 v = some w ∧ ∀ j, j < 238 → w j = past (n * 238 + j) := by
  refine zz_for0 (fun K' i (r : Nat → Int32) => f_X13_undo_L37 (nI n) past K' (nI i) r) 238 (fun i r => ∀ j, j < i → r j = past (n * 238 + j)) (fun z => ∃ w, z = some w ∧ ∀ j, j < 238 → w j = past (n * 238 + j)) ?_ ?_ K v (by omega) (fun j hj => by omega)
  · intro k r h
    refine ⟨r, ?_, h⟩
    show f_X13_undo_L37 (nI n) past (k + 1) (nI 238) r = _
    rw [f_X13_undo_L37, if_pos (by decide)]
  · intro k i r hi h ih
    show ∃ w, f_X13_undo_L37 (nI n) past (k + 1) (nI i) r = some w ∧ _
    rw [f_X13_undo_L37, zz_l238, if_neg (nI_ge hi (by decide)), pk_mul, nI_add, zz_g (by omega) (by decide), zz_g hi (by decide), nI_clamp (by omega), nI_clamp (by omega), nI_1]
    refine ih _ (fun j hj => ?_)
    rw [zz_upd]
    by_cases e : j = i
    · rw [if_pos e, e]
    · rw [if_neg e]; exact h j (by omega)
theorem zp_undo (hK : 300 ≤ K) (h : zz_Q B M sl f m ch v past) : (f_X12_undo M.1 M.2.1 M.2.2.1 M.2.2.2.1 M.2.2.2.2.1 M.2.2.2.2.2.1 M.2.2.2.2.2.2.1 M.2.2.2.2.2.2.2.1 M.2.2.2.2.2.2.2.2.1 M.2.2.2.2.2.2.2.2.2.1 M.2.2.2.2.2.2.2.2.2.2.1 M.2.2.2.2.2.2.2.2.2.2.2.1 M.2.2.2.2.2.2.2.2.2.2.2.2.1 M.2.2.2.2.2.2.2.2.2.2.2.2.2.1 M.2.2.2.2.2.2.2.2.2.2.2.2.2.2.1 M.2.2.2.2.2.2.2.2.2.2.2.2.2.2.2 sl f m = some (3, 0, M.1, M.2.1, M.2.2.1, M.2.2.2.1, M.2.2.2.2.1, M.2.2.2.2.2.1, M.2.2.2.2.2.2.1, M.2.2.2.2.2.2.2.1, M.2.2.2.2.2.2.2.2.1, M.2.2.2.2.2.2.2.2.2.1, M.2.2.2.2.2.2.2.2.2.2.1, M.2.2.2.2.2.2.2.2.2.2.2.1, M.2.2.2.2.2.2.2.2.2.2.2.2.1, M.2.2.2.2.2.2.2.2.2.2.2.2.2.1, M.2.2.2.2.2.2.2.2.2.2.2.2.2.2.1, M.2.2.2.2.2.2.2.2.2.2.2.2.2.2.2, f, m) ∧ f_X13_undo K ch v past = some (0, 1, ch, v)) ∨ (∃ N g n w, f_X12_undo M.1 M.2.1 M.2.2.1 M.2.2.2.1 M.2.2.2.2.1 M.2.2.2.2.2.1 M.2.2.2.2.2.2.1 M.2.2.2.2.2.2.2.1 M.2.2.2.2.2.2.2.2.1 M.2.2.2.2.2.2.2.2.2.1 M.2.2.2.2.2.2.2.2.2.2.1 M.2.2.2.2.2.2.2.2.2.2.2.1 M.2.2.2.2.2.2.2.2.2.2.2.2.1 M.2.2.2.2.2.2.2.2.2.2.2.2.2.1 M.2.2.2.2.2.2.2.2.2.2.2.2.2.2.1 M.2.2.2.2.2.2.2.2.2.2.2.2.2.2.2 sl f m = some (0, n, N.1, N.2.1, N.2.2.1, N.2.2.2.1, N.2.2.2.2.1, N.2.2.2.2.2.1, N.2.2.2.2.2.2.1, N.2.2.2.2.2.2.2.1, N.2.2.2.2.2.2.2.2.1, N.2.2.2.2.2.2.2.2.2.1, N.2.2.2.2.2.2.2.2.2.2.1, N.2.2.2.2.2.2.2.2.2.2.2.1, N.2.2.2.2.2.2.2.2.2.2.2.2.1, N.2.2.2.2.2.2.2.2.2.2.2.2.2.1, N.2.2.2.2.2.2.2.2.2.2.2.2.2.2.1, N.2.2.2.2.2.2.2.2.2.2.2.2.2.2.2, g, n) ∧ f_X13_undo K ch v past = some (n, 0, n, w) ∧ zz_Q B N sl g n n w past) := by
  obtain ⟨S, T, fr, n, hi, hc, hM, rfl, rfl, rfl, h1, h2, h3⟩ := h
  by_cases e : n = 0
  · subst e
    left
    refine ⟨?_, ?_⟩
    · rw [f_X12_undo, if_pos (by first | rfl | decide)]
    · rw [f_X13_undo, if_pos (by first | rfl | decide)]
  · right
    obtain ⟨t1, t2, t3⟩ := h3 (n - 1) (by omega)
    have hx : (fr + 9 - n + (n - 1)) % 9 = (fr + 8) % 9 := by omega
    rw [hx] at t2
    obtain ⟨N, n1, n2⟩ := zc_copy (M := sl ((fr + 8) % 9)) t1 t2 M.1 M.2.2.2.1 M.2.2.2.2.1 M.2.2.2.2.2.1 M.2.2.2.2.2.2.2.2.2.2.2.1 M.2.2.2.2.2.2.2.2.2.2.2.2.1 M.2.2.2.2.2.2.2.2.2.2.2.2.2.1
    obtain ⟨w, w1, w2⟩ := zm_undoL (n := n - 1) (by omega) hK past v
    refine ⟨N, nI ((fr + 8) % 9), nI (n - 1), w, ?_, ?_, T (n - 1), T, (fr + 8) % 9, n - 1, t1, n2, fun k hk => ?_, rfl, rfl, rfl, by omega, by omega, fun i hi2 => ?_⟩
    · have hf9 : ((nI fr + 9 : Int32) - 1 - (nI fr + 9 - 1) / 9 * 9) = nI ((fr + 8) % 9) := by
        rw [zz_l9, nI_add, zz_l1, pk_sub (by omega), pk_rem (by omega) (by decide) (by decide)]
        rfl
      rw [f_X12_undo, zz_l0, if_neg (zz_ne e (by omega) (by decide)), f_X4_takeBack, hf9, zz_g (by omega) (by decide), nI_clamp (by omega), n1, zz_b, zz_b, zz_l1, pk_sub (by omega)]
    · rw [f_X13_undo, zz_l0, if_neg (zz_ne e (by omega) (by decide)), zz_l1, pk_sub (by omega)]
      show (f_X13_undo_L37 (nI (n - 1)) past K 0 v).bind _ = _
      rw [w1, zz_b]
    · rw [w2 k hk]; exact t3 k hk
    · have := h3 i (by omega)
      rw [show ((fr + 8) % 9 + 9 - (n - 1) + i) % 9 = (fr + 9 - n + i) % 9 by omega]
      exact this
theorem zp_save (hK : 300 ≤ K) {saved : Nat → Int32} (hi : zz_Inv B S) (hc : zz_Pc S M) (hM : zz_Pm S v) : ∃ N w, f_X12_save M.1 M.2.1 M.2.2.1 M.2.2.2.1 M.2.2.2.2.1 M.2.2.2.2.2.1 M.2.2.2.2.2.2.1 M.2.2.2.2.2.2.2.1 M.2.2.2.2.2.2.2.2.1 M.2.2.2.2.2.2.2.2.2.1 M.2.2.2.2.2.2.2.2.2.2.1 M.2.2.2.2.2.2.2.2.2.2.2.1 M.2.2.2.2.2.2.2.2.2.2.2.2.1 M.2.2.2.2.2.2.2.2.2.2.2.2.2.1 M.2.2.2.2.2.2.2.2.2.2.2.2.2.2.1 M.2.2.2.2.2.2.2.2.2.2.2.2.2.2.2 U.1 U.2.2.2.1 U.2.2.2.2.1 U.2.2.2.2.2.1 U.2.2.2.2.2.2.2.2.2.2.2.1 U.2.2.2.2.2.2.2.2.2.2.2.2.1 U.2.2.2.2.2.2.2.2.2.2.2.2.2.1 = some (nI (S 3), N.1, N.2.1, N.2.2.1, N.2.2.2.1, N.2.2.2.2.1, N.2.2.2.2.2.1, N.2.2.2.2.2.2.1, N.2.2.2.2.2.2.2.1, N.2.2.2.2.2.2.2.2.1, N.2.2.2.2.2.2.2.2.2.1, N.2.2.2.2.2.2.2.2.2.2.1, N.2.2.2.2.2.2.2.2.2.2.2.1, N.2.2.2.2.2.2.2.2.2.2.2.2.1, N.2.2.2.2.2.2.2.2.2.2.2.2.2.1, N.2.2.2.2.2.2.2.2.2.2.2.2.2.2.1, N.2.2.2.2.2.2.2.2.2.2.2.2.2.2.2, 1) ∧ f_X13_save K v saved = some (nI (S 3), 0, 1, w) ∧ zz_Pc S N ∧ zz_Pm S w := by
  obtain ⟨N, n1, n2⟩ := zc_copy (M := M) hi hc U.1 U.2.2.2.1 U.2.2.2.2.1 U.2.2.2.2.2.1 U.2.2.2.2.2.2.2.2.2.2.2.1 U.2.2.2.2.2.2.2.2.2.2.2.2.1 U.2.2.2.2.2.2.2.2.2.2.2.2.2.1
  obtain ⟨w, w1, w2⟩ := zm_lays hK saved v
  refine ⟨N, w, ?_, ?_, n2, fun k hk => by rw [w2, if_pos hk]; exact hM k hk⟩
  · rw [f_X12_save, n1, zz_b]
    exact congrArg some (Prod.ext hc.2.1.2.2.2.1 rfl)
  · rw [f_X13_save, w1, zz_b, hM 3 (by decide)]
theorem zp_restore (hK : 300 ≤ K) {saved : Nat → Int32} (h : zz_Q B M sl f m ch v past) (hi : zz_Inv B S) (hc : zz_Pc S U) (hM : zz_Pm S saved) : ∃ N w, f_X12_restore M.1 M.2.1 M.2.2.1 M.2.2.2.1 M.2.2.2.2.1 M.2.2.2.2.2.1 M.2.2.2.2.2.2.1 M.2.2.2.2.2.2.2.1 M.2.2.2.2.2.2.2.2.1 M.2.2.2.2.2.2.2.2.2.1 M.2.2.2.2.2.2.2.2.2.2.1 M.2.2.2.2.2.2.2.2.2.2.2.1 M.2.2.2.2.2.2.2.2.2.2.2.2.1 M.2.2.2.2.2.2.2.2.2.2.2.2.2.1 M.2.2.2.2.2.2.2.2.2.2.2.2.2.2.1 M.2.2.2.2.2.2.2.2.2.2.2.2.2.2.2 U.1 U.2.1 U.2.2.1 U.2.2.2.1 U.2.2.2.2.1 U.2.2.2.2.2.1 U.2.2.2.2.2.2.1 U.2.2.2.2.2.2.2.1 U.2.2.2.2.2.2.2.2.1 U.2.2.2.2.2.2.2.2.2.1 U.2.2.2.2.2.2.2.2.2.2.1 U.2.2.2.2.2.2.2.2.2.2.2.1 U.2.2.2.2.2.2.2.2.2.2.2.2.1 U.2.2.2.2.2.2.2.2.2.2.2.2.2.1 U.2.2.2.2.2.2.2.2.2.2.2.2.2.2.1 U.2.2.2.2.2.2.2.2.2.2.2.2.2.2.2 m 1 = some (0, nI (S 3), N.1, N.2.1, N.2.2.1, N.2.2.2.1, N.2.2.2.2.1, N.2.2.2.2.2.1, N.2.2.2.2.2.2.1, N.2.2.2.2.2.2.2.1, N.2.2.2.2.2.2.2.2.1, N.2.2.2.2.2.2.2.2.2.1, N.2.2.2.2.2.2.2.2.2.2.1, N.2.2.2.2.2.2.2.2.2.2.2.1, N.2.2.2.2.2.2.2.2.2.2.2.2.1, N.2.2.2.2.2.2.2.2.2.2.2.2.2.1, N.2.2.2.2.2.2.2.2.2.2.2.2.2.2.1, N.2.2.2.2.2.2.2.2.2.2.2.2.2.2.2, 0) ∧ f_X13_restore K ch 1 v saved = some (nI (S 3), 0, 0, w) ∧ zz_Q B N sl f 0 0 w past := by
  obtain ⟨S', T, fr, n, _, _, _, rfl, rfl, rfl, h1, h2, h3⟩ := h
  obtain ⟨N, n1, n2⟩ := zc_copy (M := U) hi hc M.1 M.2.2.2.1 M.2.2.2.2.1 M.2.2.2.2.2.1 M.2.2.2.2.2.2.2.2.2.2.2.1 M.2.2.2.2.2.2.2.2.2.2.2.2.1 M.2.2.2.2.2.2.2.2.2.2.2.2.2.1
  obtain ⟨w, w1, w2⟩ := zm_lays hK v saved
  have hw : zz_Pm S w := fun k hk => by rw [w2, if_pos hk]; exact hM k hk
  refine ⟨N, w, ?_, ?_, S, T, fr, 0, hi, n2, hw, rfl, rfl, rfl, h1, by omega, fun i hi => by omega⟩
  · rw [f_X12_restore, if_neg (by decide), n1, zz_b, f_X4_forget, zz_b]
    exact congrArg some (Prod.ext rfl (Prod.ext n2.2.1.2.2.2.1 rfl))
  · rw [f_X13_restore, if_neg (by decide), w1, zz_b, hw 3 (by decide)]
theorem zp_restore0 (sv v : Nat → Int32) : f_X12_restore M.1 M.2.1 M.2.2.1 M.2.2.2.1 M.2.2.2.2.1 M.2.2.2.2.2.1 M.2.2.2.2.2.2.1 M.2.2.2.2.2.2.2.1 M.2.2.2.2.2.2.2.2.1 M.2.2.2.2.2.2.2.2.2.1 M.2.2.2.2.2.2.2.2.2.2.1 M.2.2.2.2.2.2.2.2.2.2.2.1 M.2.2.2.2.2.2.2.2.2.2.2.2.1 M.2.2.2.2.2.2.2.2.2.2.2.2.2.1 M.2.2.2.2.2.2.2.2.2.2.2.2.2.2.1 M.2.2.2.2.2.2.2.2.2.2.2.2.2.2.2 U.1 U.2.1 U.2.2.1 U.2.2.2.1 U.2.2.2.2.1 U.2.2.2.2.2.1 U.2.2.2.2.2.2.1 U.2.2.2.2.2.2.2.1 U.2.2.2.2.2.2.2.2.1 U.2.2.2.2.2.2.2.2.2.1 U.2.2.2.2.2.2.2.2.2.2.1 U.2.2.2.2.2.2.2.2.2.2.2.1 U.2.2.2.2.2.2.2.2.2.2.2.2.1 U.2.2.2.2.2.2.2.2.2.2.2.2.2.1 U.2.2.2.2.2.2.2.2.2.2.2.2.2.2.1 U.2.2.2.2.2.2.2.2.2.2.2.2.2.2.2 m 0 = some (3, 0, M.1, M.2.1, M.2.2.1, M.2.2.2.1, M.2.2.2.2.1, M.2.2.2.2.2.1, M.2.2.2.2.2.2.1, M.2.2.2.2.2.2.2.1, M.2.2.2.2.2.2.2.2.1, M.2.2.2.2.2.2.2.2.2.1, M.2.2.2.2.2.2.2.2.2.2.1, M.2.2.2.2.2.2.2.2.2.2.2.1, M.2.2.2.2.2.2.2.2.2.2.2.2.1, M.2.2.2.2.2.2.2.2.2.2.2.2.2.1, M.2.2.2.2.2.2.2.2.2.2.2.2.2.2.1, M.2.2.2.2.2.2.2.2.2.2.2.2.2.2.2, m) ∧ f_X13_restore K ch 0 v sv = some (0, 1, ch, v) := by
  constructor
  · rw [f_X12_restore, if_pos (by first | rfl | decide)]
  · rw [f_X13_restore, if_pos (by first | rfl | decide)]
theorem zp_errpos {a b : Int32} (h : a = b ∧ (a = -1 ∨ ∃ z, z < 2 ^ 31 ∧ a = nI z)) : ∃ cc cv r e, f_X12_errorPosition a = some (cc, cv) ∧ f_X13_errorPosition b = some (r, e) ∧ ((cc = 0 ∧ e = 0 ∧ cv = r) ∨ (cc = 2 ∧ e = 1)) := by
  obtain ⟨rfl, h | ⟨z, h1, rfl⟩⟩ := h
  · subst h
    exact ⟨2, 0, 0, 1, by decide, by decide, Or.inr ⟨rfl, rfl⟩⟩
  · refine ⟨0, nI z, nI z, 0, ?_, ?_, Or.inl ⟨rfl, rfl, rfl⟩⟩
    · rw [f_X12_errorPosition, if_neg (zz_n1 h1)]
    · rw [f_X13_errorPosition, zz_l0, if_pos (nI_le (Nat.zero_le _) h1)]
theorem zp_failed {a b : Int32} (h : a = b ∧ (a = -1 ∨ ∃ z, z < 2 ^ 31 ∧ a = nI z)) : ∃ cc cv r e, f_X12_failedCommand a = some (cc, cv) ∧ f_X13_failedCommand b = some (r, e) ∧ ((cc = 0 ∧ e = 0 ∧ cv = r) ∨ (cc = 2 ∧ e = 1)) := zp_errpos h
end ZMI
