def f_X1_fits (x0 : Int32) (x1 : Int32) : Option (Int32) := if x0 = 35 then if x1 < 48 then some 0 else if 57 < x1 then some 0 else some 1 else if x1 = x0 then some 1 else some 0
set_option maxHeartbeats 4000000 in
set_option maxRecDepth 100000 in
theorem c_X1_fits (l : Launch) {G : mm_G} {w : va_W} {sz : Nat} {x0 : Int32} {x1 : Int32} {X : Int32} (hf : f_X1_fits x0 x1 = some X) : Met l yX1_fits (Cond.code yX1_fits cX1_fits 2 (some .boolean) :: gAll) ({ frames := 0, cells := 0, slots := 0, locals := 0 }) (va_Pc [.int x0, .int x1] (mm_Pre G w sz)) (mm_Qi G w sz (fun r w' => r = X ∧ w' = w)) 0 0 (va_A w sz) := by
  refine mm_headI [.int x0, .int x1] (by decide +kernel) rfl (Nat.le_of_ble_eq_true rfl) ?_
  intro p e s m args below meth c A Q hsz hC hM hret ls hl
  have hx := hC.1.1
  have hb := hC.1.2.1
  have hl : lv_has ls 2 [(0, .int x0), (1, .int x1)] := hl
  rw [f_X1_fits] at hf
  refine lv_iload_n hx hb dX1_fits_0 rfl (lv_at hl 0 rfl) ?_
  refine lv_bipush (v := 35) hx hb dX1_fits_1 (by decide) ?_
  refine lv_icmp_ne (tgt := 26) hx hb dX1_fits_3 (by decide) (fun hcd => ?_) (fun hcd => ?_)
  · rw [if_neg hcd] at hf
    refine lv_iload_n hx hb dX1_fits_26 rfl (lv_at hl 1 rfl) ?_
    refine lv_iload_n hx hb dX1_fits_27 rfl (lv_at hl 0 rfl) ?_
    refine lv_icmp_ne (tgt := 35) hx hb dX1_fits_28 (by decide) (fun hcd => ?_) (fun hcd => ?_)
    · rw [if_neg hcd] at hf
      refine lv_iconst (v := 0) hx hb dX1_fits_35 (by decide) ?_
      cases hf
      exact hret hM dX1_fits_36 rfl ⟨rfl, rfl⟩
    · rw [if_pos hcd] at hf
      refine lv_iconst (v := 1) hx hb dX1_fits_31 (by decide) ?_
      refine lv_goto (tgt := 36) hx hb dX1_fits_32 (by decide) ?_
      cases hf
      exact hret hM dX1_fits_36 rfl ⟨rfl, rfl⟩
  · rw [if_pos hcd] at hf
    refine lv_iload_n hx hb dX1_fits_6 rfl (lv_at hl 1 rfl) ?_
    refine lv_bipush (v := 48) hx hb dX1_fits_7 (by decide) ?_
    refine lv_icmp_lt (tgt := 22) hx hb dX1_fits_9 (by decide) (fun hcd => ?_) (fun hcd => ?_)
    · rw [if_pos hcd] at hf
      refine lv_iconst (v := 0) hx hb dX1_fits_22 (by decide) ?_
      refine lv_goto (tgt := 36) hx hb dX1_fits_23 (by decide) ?_
      cases hf
      exact hret hM dX1_fits_36 rfl ⟨rfl, rfl⟩
    · rw [if_neg hcd] at hf
      refine lv_iload_n hx hb dX1_fits_12 rfl (lv_at hl 1 rfl) ?_
      refine lv_bipush (v := 57) hx hb dX1_fits_13 (by decide) ?_
      refine lv_icmp_gt (tgt := 22) hx hb dX1_fits_15 (by decide) (fun hcd => ?_) (fun hcd => ?_)
      · rw [if_pos hcd] at hf
        refine lv_iconst (v := 0) hx hb dX1_fits_22 (by decide) ?_
        refine lv_goto (tgt := 36) hx hb dX1_fits_23 (by decide) ?_
        cases hf
        exact hret hM dX1_fits_36 rfl ⟨rfl, rfl⟩
      · rw [if_neg hcd] at hf
        refine lv_iconst (v := 1) hx hb dX1_fits_18 (by decide) ?_
        refine lv_goto (tgt := 36) hx hb dX1_fits_19 (by decide) ?_
        cases hf
        exact hret hM dX1_fits_36 rfl ⟨rfl, rfl⟩
def f_X1_matchedSigns_L2 (p1_signs : Nat → Int32) (p1_length : Int32) (x2 : Int32) (kc : Nat) : Nat → (Int32) → Option (Int32)
  | 0, _ => none
  | n + 1, x3 => if (mm_pl kc) ≤ x3 then some x3 else mm_g (mm_ck x3 (mm_len.getD kc 0)) ((f_X10_signAt p1_signs p1_length (x2 + x3)).bind fun q25 => (f_X1_fits (mm_pc kc x3.toNatClampNeg) q25).bind fun q28 => if q28 = 0 then some x3 else f_X1_matchedSigns_L2 p1_signs p1_length x2 kc n (x3 + 1))
def f_X1_matchedSigns (K : Nat) (p1_signs : Nat → Int32) (p1_length : Int32) (x2 : Int32) (kc : Nat) : Option (Int32) := (f_X1_matchedSigns_L2 p1_signs p1_length x2 kc K 0).bind fun q2 => some q2
set_option maxHeartbeats 4000000 in
set_option maxRecDepth 100000 in
theorem c_X1_matchedSigns (l : Launch) {G : mm_G} {K : Nat} {w : va_W} {sz : Nat} {b1 : Nat} {kc : Nat} {p1_signs : Nat → Int32} {p1_length : Int32} {x2 : Int32} {X : Int32} (hf : f_X1_matchedSigns K p1_signs p1_length x2 kc = some X) (hp_p1 : At10 G w b1 p1_signs p1_length) (hkc : kc < 11) : Met l yX1_matchedSigns (Cond.code yX1_matchedSigns cX1_matchedSigns 4 (some .int) :: gAll) ({ frames := 4, cells := 0, slots := 0, locals := 122 }) (va_Pc [.ref (G.2 (20 + kc)), .ref b1, .int x2] (mm_Pre G w sz)) (mm_Qi G w sz (fun r w' => r = X ∧ w' = w)) 0 0 (va_A w sz) := by
  refine mm_headI [.ref (G.2 (20 + kc)), .ref b1, .int x2] (by decide +kernel) rfl (Nat.le_of_ble_eq_true rfl) ?_
  intro p e s m args below meth c A Q hsz hC hM hret ls hl
  have hx := hC.1.1
  have hb := hC.1.2.1
  have hl : lv_has ls 4 [(0, .ref (G.2 (20 + kc))), (1, .ref b1), (2, .int x2)] := hl
  rw [f_X1_matchedSigns] at hf
  refine lv_iconst (v := 0) hx hb dX1_matchedSigns_0 (by decide) ?_
  refine lv_istore_n (lv' := [(3, .int 0), (0, .ref (G.2 (20 + kc))), (1, .ref b1), (2, .int x2)]) hx hb dX1_matchedSigns_1 rfl hl (by decide) rfl (fun ls hl => ?_)
  have L2 : ∀ (n : Nat) (L2_x3 : Int32) (X : Int32), f_X1_matchedSigns_L2 p1_signs p1_length x2 kc n L2_x3 = some X → ∀ (H : Heap) (locs : List Loc), mm_S G A s.heap w H locs → ∀ (ls : Array Slot), lv_has ls 4 [(0, .ref (G.2 (20 + kc))), (1, .ref b1), (2, .int x2), (3, .int L2_x3)] → (∀ (H : Heap) (locs : List Loc), mm_S G A s.heap w H locs → ∀ (ls : Array Slot), lv_has ls 4 [(3, .int X)] → W p l e ({ frames := 4, cells := 0, slots := 0, locals := 122 } : Room) s m args below meth c H locs 0 0 Q (F0 m 40 ls [])) → W p l e ({ frames := 4, cells := 0, slots := 0, locals := 122 } : Room) s m args below meth c H locs 0 0 Q (F0 m 2 ls []) := by
    intro n
    induction n with
    | zero => intro L2_x3 X hf; cases hf
    | succ n ih =>
      intro L2_x3 X hf H locs hM ls hl hk
      rw [f_X1_matchedSigns_L2] at hf
      refine lv_iload_n hx hb dX1_matchedSigns_2 rfl (lv_at hl 3 rfl) ?_
      refine lv_aload_n hx hb dX1_matchedSigns_3 rfl (lv_at hl 0 rfl) ?_
      refine vk_getf hx hb (hC.2.2.1.2.2.2.2.2.2.2.1 kc hkc) hM.2.2 hC.1.2.2.2.1 (hC.1.2.2.2.2 _ q9_114) (fun _ h => h) dX1_matchedSigns_4 ?_
      refine mm_Ri (rest := [.int L2_x3]) hC hM (c_J0_length_8abf5 l hkc) q6_28 q1_18 ykJ0_length_8abf5 q6_25 q6_26 q6_27 (vk_recv (i := kc) hC.2.2.1.2.2.2.2.2.2.2.2.1 hkc hM.2.2) ⟨rfl, rfl⟩ ⟨Nat.le_of_ble_eq_true rfl, Nat.le_of_ble_eq_true rfl⟩ rfl hl.1 rfl (Nat.le_of_ble_eq_true rfl) dX1_matchedSigns_7 ⟨Nat.le_of_ble_eq_true rfl, Nat.le_of_ble_eq_true rfl⟩ (fun r w7 H locs hM hw => ?_)
      obtain ⟨hr, hw⟩ := hw
      rw [hw] at hM
      rw [hr]
      refine lv_icmp_ge (tgt := 40) hx hb dX1_matchedSigns_10 (by decide) (fun hcd => ?_) (fun hcd => ?_)
      · rw [if_pos hcd] at hf
        cases hf
        exact hk _ _ hM _ (lv_sub hl [3] rfl)
      · rw [if_neg hcd] at hf
        refine lv_aload_n hx hb dX1_matchedSigns_13 rfl (lv_at hl 0 rfl) ?_
        refine vk_getf hx hb (hC.2.2.1.2.2.2.2.2.2.2.1 kc hkc) hM.2.2 hC.1.2.2.2.1 (hC.1.2.2.2.2 _ q9_114) (fun _ h => h) dX1_matchedSigns_14 ?_
        refine lv_iload_n hx hb dX1_matchedSigns_17 rfl (lv_at hl 3 rfl) ?_
        obtain ⟨hg18, hf⟩ := mm_gd hf
        refine mm_Ri (rest := []) hC hM (c_J0_charAt_5068e l hkc hg18) q6_38 q1_18 ykJ0_charAt_5068e q6_35 q6_36 q6_37 (vk_recv (i := kc) hC.2.2.1.2.2.2.2.2.2.2.2.1 hkc hM.2.2) ⟨rfl, rfl⟩ ⟨Nat.le_of_ble_eq_true rfl, Nat.le_of_ble_eq_true rfl⟩ rfl hl.1 rfl (Nat.le_of_ble_eq_true rfl) dX1_matchedSigns_18 ⟨Nat.le_of_ble_eq_true rfl, Nat.le_of_ble_eq_true rfl⟩ (fun r w18 H locs hM hw => ?_)
        obtain ⟨hr, hw⟩ := hw
        rw [hw] at hM
        rw [hr]
        refine lv_aload_n hx hb dX1_matchedSigns_21 rfl (lv_at hl 1 rfl) ?_
        refine lv_iload_n hx hb dX1_matchedSigns_22 rfl (lv_at hl 2 rfl) ?_
        refine lv_iload_n hx hb dX1_matchedSigns_23 rfl (lv_at hl 3 rfl) ?_
        refine lv_iadd hx hb dX1_matchedSigns_24 ?_
        obtain ⟨q25, hq25, hf⟩ := mm_bd hf
        refine mm_Vi (rest := [.int (mm_pc kc L2_x3.toNatClampNeg)]) hC hM (c_X10_signAt l hq25 hp_p1) q6_76 q1_11 ykX10_signAt q6_73 q6_74 q6_75 hp_p1.1 rfl ⟨rfl, rfl⟩ ⟨Nat.le_of_ble_eq_true rfl, Nat.le_of_ble_eq_true rfl⟩ rfl hl.1 rfl (Nat.le_of_ble_eq_true rfl) dX1_matchedSigns_25 ⟨Nat.le_of_ble_eq_true rfl, Nat.le_of_ble_eq_true rfl⟩ (fun r w25 H locs hM hw => ?_)
        obtain ⟨hr, hw⟩ := hw
        rw [hr]
        rw [hw] at hM
        obtain ⟨q28, hq28, hf⟩ := mm_bd hf
        refine mm_Si (rest := []) hC hM (c_X1_fits l hq28) q6_79 q1_30 ykX1_fits q6_77 q6_78 ⟨rfl, rfl⟩ ⟨Nat.le_of_ble_eq_true rfl, Nat.le_of_ble_eq_true rfl⟩ rfl hl.1 rfl (Nat.le_of_ble_eq_true rfl) dX1_matchedSigns_28 ⟨Nat.le_of_ble_eq_true rfl, Nat.le_of_ble_eq_true rfl⟩ (fun r w28 H locs hM hw => ?_)
        obtain ⟨hr, hw⟩ := hw
        rw [hr]
        rw [hw] at hM
        refine lv_if_eq (tgt := 40) hx hb dX1_matchedSigns_31 (by decide) (fun hcd => ?_) (fun hcd => ?_)
        · rw [if_pos hcd] at hf
          cases hf
          exact hk _ _ hM _ (lv_sub hl [3] rfl)
        · rw [if_neg hcd] at hf
          refine lv_iinc (v := (L2_x3 + 1)) (lv' := [(3, .int (L2_x3 + 1)), (0, .ref (G.2 (20 + kc))), (1, .ref b1), (2, .int x2)]) hx hb dX1_matchedSigns_34 hl (k := 3) rfl rfl (by decide) rfl (fun ls hl => ?_)
          refine lv_goto (tgt := 2) hx hb dX1_matchedSigns_37 (by decide) ?_
          exact ih _ _ hf _ _ hM _ (lv_sub hl [1, 2, 3, 0] rfl) hk
  obtain ⟨q2, hq2, hf⟩ := mm_bd hf
  refine L2 K _ _ hq2 _ _ hM _ (lv_sub hl [1, 2, 3, 0] rfl) (fun H locs hM ls hl => ?_)
  refine lv_iload_n hx hb dX1_matchedSigns_40 rfl (lv_at hl 0 rfl) ?_
  cases hf
  exact hret hM dX1_matchedSigns_41 rfl ⟨rfl, rfl⟩
def f_X1_endIn (K : Nat) (p1_signs : Nat → Int32) (p1_length : Int32) (x2 : Int32) (kc : Nat) : Option (Int32) := if kc = 3 then (f_X10_endOfMoves K p1_signs p1_length (x2 + (mm_pl kc))).bind fun q19 => some q19 else some (x2 + (mm_pl kc))
set_option maxHeartbeats 4000000 in
set_option maxRecDepth 100000 in
theorem c_X1_endIn (l : Launch) {G : mm_G} {K : Nat} {w : va_W} {sz : Nat} {b1 : Nat} {kc : Nat} {p1_signs : Nat → Int32} {p1_length : Int32} {x2 : Int32} {X : Int32} (hf : f_X1_endIn K p1_signs p1_length x2 kc = some X) (hp_p1 : At10 G w b1 p1_signs p1_length) (hkc : kc < 11) : Met l yX1_endIn (Cond.code yX1_endIn cX1_endIn 4 (some .int) :: gAll) ({ frames := 2, cells := 0, slots := 0, locals := 52 }) (va_Pc [.ref (G.2 (20 + kc)), .ref b1, .int x2] (mm_Pre G w sz)) (mm_Qi G w sz (fun r w' => r = X ∧ w' = w)) 0 0 (va_A w sz) := by
  refine mm_headI [.ref (G.2 (20 + kc)), .ref b1, .int x2] (by decide +kernel) rfl (Nat.le_of_ble_eq_true rfl) ?_
  intro p e s m args below meth c A Q hsz hC hM hret ls hl
  have hx := hC.1.1
  have hb := hC.1.2.1
  have hl : lv_has ls 4 [(0, .ref (G.2 (20 + kc))), (1, .ref b1), (2, .int x2)] := hl
  rw [f_X1_endIn] at hf
  refine lv_iload_n hx hb dX1_endIn_0 rfl (lv_at hl 2 rfl) ?_
  refine lv_aload_n hx hb dX1_endIn_1 rfl (lv_at hl 0 rfl) ?_
  refine vk_getf hx hb (hC.2.2.1.2.2.2.2.2.2.2.1 kc hkc) hM.2.2 hC.1.2.2.2.1 (hC.1.2.2.2.2 _ q9_114) (fun _ h => h) dX1_endIn_2 ?_
  refine mm_Ri (rest := [.int x2]) hC hM (c_J0_length_8abf5 l hkc) q6_28 q1_18 ykJ0_length_8abf5 q6_25 q6_26 q6_27 (vk_recv (i := kc) hC.2.2.1.2.2.2.2.2.2.2.2.1 hkc hM.2.2) ⟨rfl, rfl⟩ ⟨Nat.le_of_ble_eq_true rfl, Nat.le_of_ble_eq_true rfl⟩ rfl hl.1 rfl (Nat.le_of_ble_eq_true rfl) dX1_endIn_5 ⟨Nat.le_of_ble_eq_true rfl, Nat.le_of_ble_eq_true rfl⟩ (fun r w5 H locs hM hw => ?_)
  obtain ⟨hr, hw⟩ := hw
  rw [hw] at hM
  rw [hr]
  refine lv_iadd hx hb dX1_endIn_8 ?_
  refine lv_istore_n (lv' := [(3, .int (x2 + (mm_pl kc))), (0, .ref (G.2 (20 + kc))), (1, .ref b1), (2, .int x2)]) hx hb dX1_endIn_9 rfl hl (by decide) rfl (fun ls hl => ?_)
  refine lv_aload_n hx hb dX1_endIn_10 rfl (lv_at hl 1 rfl) ?_
  refine va_gets (v := .ref (G.2 (20 + 3))) (n := "PLAN") hx hb (hC.2.2.1.2.2.2.2.2.2.1.1 3 (by decide)).1 hM.2.2 hC.1.2.2.2.1 (hC.1.2.2.2.2 _ q6_91) (fun _ h => h) dX1_endIn_11 ?_
  refine lv_acmp_ne (rx := some (G.2 (20 + kc))) (ry := some (G.2 (20 + 3))) (tgt := 25) hx hb dX1_endIn_14 (by decide) (fun hcd => ?_) (fun hcd => ?_)
  · rw [if_neg (fun z => hcd (by rw [z]))] at hf
    refine lv_iload_n hx hb dX1_endIn_25 rfl (lv_at hl 0 rfl) ?_
    cases hf
    exact hret hM dX1_endIn_26 rfl ⟨rfl, rfl⟩
  · rw [if_pos (hC.2.2.1.2.2.2.2.2.2.1.2 kc 3 hkc (by decide) (Option.some.inj hcd))] at hf
    refine lv_aload_n hx hb dX1_endIn_17 rfl (lv_at hl 2 rfl) ?_
    refine lv_iload_n hx hb dX1_endIn_18 rfl (lv_at hl 0 rfl) ?_
    obtain ⟨q19, hq19, hf⟩ := mm_bd hf
    refine mm_Vi (rest := []) hC hM (c_X10_endOfMoves l hq19 hp_p1) q6_96 q1_11 ykX10_endOfMoves q6_93 q6_94 q6_95 hp_p1.1 rfl ⟨rfl, rfl⟩ ⟨Nat.le_of_ble_eq_true rfl, Nat.le_of_ble_eq_true rfl⟩ rfl hl.1 rfl (Nat.le_of_ble_eq_true rfl) dX1_endIn_19 ⟨Nat.le_of_ble_eq_true rfl, Nat.le_of_ble_eq_true rfl⟩ (fun r w19 H locs hM hw => ?_)
    obtain ⟨hr, hw⟩ := hw
    rw [hr]
    rw [hw] at hM
    refine lv_goto (tgt := 26) hx hb dX1_endIn_22 (by decide) ?_
    cases hf
    exact hret hM dX1_endIn_26 rfl ⟨rfl, rfl⟩
def f_X1_number_L6 (p1_signs : Nat → Int32) (p1_length : Int32) (x2 : Int32) (x3 : Int32) (kc : Nat) : Nat → (Int32) → (Int32) → Option (Int32)
  | 0, _, _ => none
  | n + 1, x4, x5 => if (mm_pl kc) ≤ x5 then some 0 else mm_g (mm_ck x5 (mm_len.getD kc 0)) (if (mm_pc kc x5.toNatClampNeg) = 35 then if x4 = x3 then (f_X10_signAt p1_signs p1_length (x2 + x5)).bind fun q43 => some (q43 - 48) else f_X1_number_L6 p1_signs p1_length x2 x3 kc n (x4 + 1) (x5 + 1) else f_X1_number_L6 p1_signs p1_length x2 x3 kc n x4 (x5 + 1))
def f_X1_number (K : Nat) (p1_signs : Nat → Int32) (p1_length : Int32) (x2 : Int32) (x3 : Int32) (kc : Nat) : Option (Int32) := f_X1_number_L6 p1_signs p1_length x2 x3 kc K 0 0
set_option maxHeartbeats 4000000 in
set_option maxRecDepth 100000 in
theorem c_X1_number (l : Launch) {G : mm_G} {K : Nat} {w : va_W} {sz : Nat} {b1 : Nat} {kc : Nat} {p1_signs : Nat → Int32} {p1_length : Int32} {x2 : Int32} {x3 : Int32} {X : Int32} (hf : f_X1_number K p1_signs p1_length x2 x3 kc = some X) (hp_p1 : At10 G w b1 p1_signs p1_length) (hkc : kc < 11) : Met l yX1_number (Cond.code yX1_number cX1_number 6 (some .int) :: gAll) ({ frames := 4, cells := 0, slots := 0, locals := 122 }) (va_Pc [.ref (G.2 (20 + kc)), .ref b1, .int x2, .int x3] (mm_Pre G w sz)) (mm_Qi G w sz (fun r w' => r = X ∧ w' = w)) 0 0 (va_A w sz) := by
  refine mm_headI [.ref (G.2 (20 + kc)), .ref b1, .int x2, .int x3] (by decide +kernel) rfl (Nat.le_of_ble_eq_true rfl) ?_
  intro p e s m args below meth c A Q hsz hC hM hret ls hl
  have hx := hC.1.1
  have hb := hC.1.2.1
  have hl : lv_has ls 6 [(0, .ref (G.2 (20 + kc))), (1, .ref b1), (2, .int x2), (3, .int x3)] := hl
  rw [f_X1_number] at hf
  refine lv_iconst (v := 0) hx hb dX1_number_0 (by decide) ?_
  refine lv_istore (lv' := [(4, .int 0), (0, .ref (G.2 (20 + kc))), (1, .ref b1), (2, .int x2), (3, .int x3)]) hx hb dX1_number_1 hl (by decide) rfl (fun ls hl => ?_)
  refine lv_iconst (v := 0) hx hb dX1_number_3 (by decide) ?_
  refine lv_istore (lv' := [(5, .int 0), (4, .int 0), (0, .ref (G.2 (20 + kc))), (1, .ref b1), (2, .int x2), (3, .int x3)]) hx hb dX1_number_4 hl (by decide) rfl (fun ls hl => ?_)
  have L6 : ∀ (n : Nat) (L6_x4 : Int32) (L6_x5 : Int32), f_X1_number_L6 p1_signs p1_length x2 x3 kc n L6_x4 L6_x5 = some X → ∀ (H : Heap) (locs : List Loc), mm_S G A s.heap w H locs → ∀ (ls : Array Slot), lv_has ls 6 [(0, .ref (G.2 (20 + kc))), (1, .ref b1), (2, .int x2), (3, .int x3), (4, .int L6_x4), (5, .int L6_x5)] → W p l e ({ frames := 4, cells := 0, slots := 0, locals := 122 } : Room) s m args below meth c H locs 0 0 Q (F0 m 6 ls []) := by
    intro n
    induction n with
    | zero => intro L6_x4 L6_x5 hf; cases hf
    | succ n ih =>
      intro L6_x4 L6_x5 hf H locs hM ls hl
      rw [f_X1_number_L6] at hf
      refine lv_iload hx hb dX1_number_6 (lv_at hl 5 rfl) ?_
      refine lv_aload_n hx hb dX1_number_8 rfl (lv_at hl 0 rfl) ?_
      refine vk_getf hx hb (hC.2.2.1.2.2.2.2.2.2.2.1 kc hkc) hM.2.2 hC.1.2.2.2.1 (hC.1.2.2.2.2 _ q9_114) (fun _ h => h) dX1_number_9 ?_
      refine mm_Ri (rest := [.int L6_x5]) hC hM (c_J0_length_8abf5 l hkc) q6_28 q1_18 ykJ0_length_8abf5 q6_25 q6_26 q6_27 (vk_recv (i := kc) hC.2.2.1.2.2.2.2.2.2.2.2.1 hkc hM.2.2) ⟨rfl, rfl⟩ ⟨Nat.le_of_ble_eq_true rfl, Nat.le_of_ble_eq_true rfl⟩ rfl hl.1 rfl (Nat.le_of_ble_eq_true rfl) dX1_number_12 ⟨Nat.le_of_ble_eq_true rfl, Nat.le_of_ble_eq_true rfl⟩ (fun r w12 H locs hM hw => ?_)
      obtain ⟨hr, hw⟩ := hw
      rw [hw] at hM
      rw [hr]
      refine lv_icmp_ge (tgt := 59) hx hb dX1_number_15 (by decide) (fun hcd => ?_) (fun hcd => ?_)
      · rw [if_pos hcd] at hf
        refine lv_iconst (v := 0) hx hb dX1_number_59 (by decide) ?_
        cases hf
        exact hret hM dX1_number_60 rfl ⟨rfl, rfl⟩
      · rw [if_neg hcd] at hf
        refine lv_aload_n hx hb dX1_number_18 rfl (lv_at hl 0 rfl) ?_
        refine vk_getf hx hb (hC.2.2.1.2.2.2.2.2.2.2.1 kc hkc) hM.2.2 hC.1.2.2.2.1 (hC.1.2.2.2.2 _ q9_114) (fun _ h => h) dX1_number_19 ?_
        refine lv_iload hx hb dX1_number_22 (lv_at hl 5 rfl) ?_
        obtain ⟨hg24, hf⟩ := mm_gd hf
        refine mm_Ri (rest := []) hC hM (c_J0_charAt_5068e l hkc hg24) q6_38 q1_18 ykJ0_charAt_5068e q6_35 q6_36 q6_37 (vk_recv (i := kc) hC.2.2.1.2.2.2.2.2.2.2.2.1 hkc hM.2.2) ⟨rfl, rfl⟩ ⟨Nat.le_of_ble_eq_true rfl, Nat.le_of_ble_eq_true rfl⟩ rfl hl.1 rfl (Nat.le_of_ble_eq_true rfl) dX1_number_24 ⟨Nat.le_of_ble_eq_true rfl, Nat.le_of_ble_eq_true rfl⟩ (fun r w24 H locs hM hw => ?_)
        obtain ⟨hr, hw⟩ := hw
        rw [hw] at hM
        rw [hr]
        refine lv_bipush (v := 35) hx hb dX1_number_27 (by decide) ?_
        refine lv_icmp_ne (tgt := 53) hx hb dX1_number_29 (by decide) (fun hcd => ?_) (fun hcd => ?_)
        · rw [if_neg hcd] at hf
          refine lv_iinc (v := (L6_x5 + 1)) (lv' := [(5, .int (L6_x5 + 1)), (0, .ref (G.2 (20 + kc))), (1, .ref b1), (2, .int x2), (3, .int x3), (4, .int L6_x4)]) hx hb dX1_number_53 hl (k := 5) rfl rfl (by decide) rfl (fun ls hl => ?_)
          refine lv_goto (tgt := 6) hx hb dX1_number_56 (by decide) ?_
          exact ih _ _ hf _ _ hM _ (lv_sub hl [1, 2, 3, 4, 5, 0] rfl)
        · rw [if_pos hcd] at hf
          refine lv_iload hx hb dX1_number_32 (lv_at hl 4 rfl) ?_
          refine lv_iload_n hx hb dX1_number_34 rfl (lv_at hl 3 rfl) ?_
          refine lv_icmp_ne (tgt := 50) hx hb dX1_number_35 (by decide) (fun hcd => ?_) (fun hcd => ?_)
          · rw [if_neg hcd] at hf
            refine lv_iinc (v := (L6_x4 + 1)) (lv' := [(4, .int (L6_x4 + 1)), (0, .ref (G.2 (20 + kc))), (1, .ref b1), (2, .int x2), (3, .int x3), (5, .int L6_x5)]) hx hb dX1_number_50 hl (k := 4) rfl rfl (by decide) rfl (fun ls hl => ?_)
            refine lv_iinc (v := (L6_x5 + 1)) (lv' := [(5, .int (L6_x5 + 1)), (4, .int (L6_x4 + 1)), (0, .ref (G.2 (20 + kc))), (1, .ref b1), (2, .int x2), (3, .int x3)]) hx hb dX1_number_53 hl (k := 5) rfl rfl (by decide) rfl (fun ls hl => ?_)
            refine lv_goto (tgt := 6) hx hb dX1_number_56 (by decide) ?_
            exact ih _ _ hf _ _ hM _ (lv_sub hl [2, 3, 4, 5, 1, 0] rfl)
          · rw [if_pos hcd] at hf
            refine lv_aload_n hx hb dX1_number_38 rfl (lv_at hl 1 rfl) ?_
            refine lv_iload_n hx hb dX1_number_39 rfl (lv_at hl 2 rfl) ?_
            refine lv_iload hx hb dX1_number_40 (lv_at hl 5 rfl) ?_
            refine lv_iadd hx hb dX1_number_42 ?_
            obtain ⟨q43, hq43, hf⟩ := mm_bd hf
            refine mm_Vi (rest := []) hC hM (c_X10_signAt l hq43 hp_p1) q6_76 q1_11 ykX10_signAt q6_73 q6_74 q6_75 hp_p1.1 rfl ⟨rfl, rfl⟩ ⟨Nat.le_of_ble_eq_true rfl, Nat.le_of_ble_eq_true rfl⟩ rfl hl.1 rfl (Nat.le_of_ble_eq_true rfl) dX1_number_43 ⟨Nat.le_of_ble_eq_true rfl, Nat.le_of_ble_eq_true rfl⟩ (fun r w43 H locs hM hw => ?_)
            obtain ⟨hr, hw⟩ := hw
            rw [hr]
            rw [hw] at hM
            refine lv_bipush (v := 48) hx hb dX1_number_46 (by decide) ?_
            refine lv_isub hx hb dX1_number_48 ?_
            cases hf
            exact hret hM dX1_number_49 rfl ⟨rfl, rfl⟩
  exact L6 K _ _ hf _ _ hM _ (lv_sub hl [2, 3, 4, 5, 1, 0] rfl)
def f_X2_kindAt_L2 (K : Nat) (p0_signs : Nat → Int32) (p0_length : Int32) (x1 : Int32) : Nat → (Int32) → Option (Int32)
  | 0, _ => none
  | n + 1, x2 => if 11 ≤ x2 then some (-1) else mm_g (mm_ck x2 11) ((f_X1_matchedSigns K p0_signs p0_length x1 x2.toNatClampNeg).bind fun q17 => mm_g (mm_ck x2 11) (if q17 = (mm_pl x2.toNatClampNeg) then some x2 else f_X2_kindAt_L2 K p0_signs p0_length x1 n (x2 + 1)))
def f_X2_kindAt (K : Nat) (p0_signs : Nat → Int32) (p0_length : Int32) (x1 : Int32) : Option (Int32) := f_X2_kindAt_L2 K p0_signs p0_length x1 K 0
set_option maxHeartbeats 4000000 in
set_option maxRecDepth 100000 in
theorem c_X2_kindAt (l : Launch) {G : mm_G} {K : Nat} {w : va_W} {sz : Nat} {b0 : Nat} {p0_signs : Nat → Int32} {p0_length : Int32} {x1 : Int32} {X : Int32} (hf : f_X2_kindAt K p0_signs p0_length x1 = some X) (hp_p0 : At10 G w b0 p0_signs p0_length) : Met l yX2_kindAt (Cond.code yX2_kindAt cX2_kindAt 3 (some .int) :: gAll) ({ frames := 5, cells := 0, slots := 0, locals := 145 }) (va_Pc [.ref b0, .int x1] (mm_Pre G w sz)) (mm_Qi G w sz (fun r w' => r = X ∧ w' = w)) 0 0 (va_A w sz) := by
  refine mm_headI [.ref b0, .int x1] (by decide +kernel) rfl (Nat.le_of_ble_eq_true rfl) ?_
  intro p e s m args below meth c A Q hsz hC hM hret ls hl
  have hx := hC.1.1
  have hb := hC.1.2.1
  have hl : lv_has ls 3 [(0, .ref b0), (1, .int x1)] := hl
  rw [f_X2_kindAt] at hf
  refine lv_iconst (v := 0) hx hb dX2_kindAt_0 (by decide) ?_
  refine lv_istore_n (lv' := [(2, .int 0), (0, .ref b0), (1, .int x1)]) hx hb dX2_kindAt_1 rfl hl (by decide) rfl (fun ls hl => ?_)
  have L2 : ∀ (n : Nat) (L2_x2 : Int32), f_X2_kindAt_L2 K p0_signs p0_length x1 n L2_x2 = some X → ∀ (H : Heap) (locs : List Loc), mm_S G A s.heap w H locs → ∀ (ls : Array Slot), lv_has ls 3 [(0, .ref b0), (1, .int x1), (2, .int L2_x2)] → W p l e ({ frames := 5, cells := 0, slots := 0, locals := 145 } : Room) s m args below meth c H locs 0 0 Q (F0 m 2 ls []) := by
    intro n
    induction n with
    | zero => intro L2_x2 hf; cases hf
    | succ n ih =>
      intro L2_x2 hf H locs hM ls hl
      rw [f_X2_kindAt_L2] at hf
      refine lv_iload_n hx hb dX2_kindAt_2 rfl (lv_at hl 2 rfl) ?_
      refine va_getsN hx hb hC.2.2.1.2.2.2.2.1.1 hM.2.2 hC.1.2.2.2.1 (va_Nw.use rfl (hC.2.2.1.1.1 _ q6_19)) (fun _ h => h) dX2_kindAt_3 ?_
      refine va_tlen (v := 11) hx hb hC.2.2.1.2.2.2.2.1.2 hM.2.2 rfl dX2_kindAt_6 ?_
      refine lv_icmp_ge (tgt := 42) hx hb dX2_kindAt_7 (by decide) (fun hcd => ?_) (fun hcd => ?_)
      · rw [if_pos hcd] at hf
        refine lv_iconst (v := (-1)) hx hb dX2_kindAt_42 (by decide) ?_
        cases hf
        exact hret hM dX2_kindAt_43 rfl ⟨rfl, rfl⟩
      · rw [if_neg hcd] at hf
        refine va_getsN hx hb hC.2.2.1.2.2.2.2.1.1 hM.2.2 hC.1.2.2.2.1 (va_Nw.use rfl (hC.2.2.1.1.1 _ q6_19)) (fun _ h => h) dX2_kindAt_10 ?_
        refine lv_iload_n hx hb dX2_kindAt_13 rfl (lv_at hl 2 rfl) ?_
        obtain ⟨hg14, hf⟩ := mm_gd hf
        refine mm_taald hx hb hC.2.2.1.2.2.2.2.1.2 hM.2.2 hg14 rfl dX2_kindAt_14 ?_
        refine lv_aload_n hx hb dX2_kindAt_15 rfl (lv_at hl 0 rfl) ?_
        refine lv_iload_n hx hb dX2_kindAt_16 rfl (lv_at hl 1 rfl) ?_
        obtain ⟨q17, hq17, hf⟩ := mm_bd hf
        refine mm_Ri (rest := []) hC hM (c_X1_matchedSigns l hq17 hp_p0 (mm_klt hg14)) q6_24 q1_30 ykX1_matchedSigns q6_21 q6_22 q6_23 (va_recvE (i := L2_x2.toNatClampNeg) hC.2.2.1.2.2.2.2.2.2.1 (mm_klt hg14) hM.2.2) ⟨rfl, rfl⟩ ⟨Nat.le_of_ble_eq_true rfl, Nat.le_of_ble_eq_true rfl⟩ rfl hl.1 rfl (Nat.le_of_ble_eq_true rfl) dX2_kindAt_17 ⟨Nat.le_of_ble_eq_true rfl, Nat.le_of_ble_eq_true rfl⟩ (fun r w17 H locs hM hw => ?_)
        obtain ⟨hr, hw⟩ := hw
        rw [hr]
        rw [hw] at hM
        refine va_getsN hx hb hC.2.2.1.2.2.2.2.1.1 hM.2.2 hC.1.2.2.2.1 (va_Nw.use rfl (hC.2.2.1.1.1 _ q6_19)) (fun _ h => h) dX2_kindAt_20 ?_
        refine lv_iload_n hx hb dX2_kindAt_23 rfl (lv_at hl 2 rfl) ?_
        obtain ⟨hg24, hf⟩ := mm_gd hf
        refine mm_taald hx hb hC.2.2.1.2.2.2.2.1.2 hM.2.2 hg24 rfl dX2_kindAt_24 ?_
        refine vk_getf hx hb (hC.2.2.1.2.2.2.2.2.2.2.1 L2_x2.toNatClampNeg (mm_klt hg24)) hM.2.2 hC.1.2.2.2.1 (hC.1.2.2.2.2 _ q9_117) (fun _ h => h) dX2_kindAt_25 ?_
        refine mm_Ri (rest := [.int q17]) hC hM (c_J0_length_8abf5 l (mm_klt hg24)) q6_28 q1_18 ykJ0_length_8abf5 q6_80 q6_26 q6_27 (vk_recv (i := L2_x2.toNatClampNeg) hC.2.2.1.2.2.2.2.2.2.2.2.1 (mm_klt hg24) hM.2.2) ⟨rfl, rfl⟩ ⟨Nat.le_of_ble_eq_true rfl, Nat.le_of_ble_eq_true rfl⟩ rfl hl.1 rfl (Nat.le_of_ble_eq_true rfl) dX2_kindAt_28 ⟨Nat.le_of_ble_eq_true rfl, Nat.le_of_ble_eq_true rfl⟩ (fun r w28 H locs hM hw => ?_)
        obtain ⟨hr, hw⟩ := hw
        rw [hw] at hM
        rw [hr]
        refine lv_icmp_ne (tgt := 36) hx hb dX2_kindAt_31 (by decide) (fun hcd => ?_) (fun hcd => ?_)
        · rw [if_neg hcd] at hf
          refine lv_iinc (v := (L2_x2 + 1)) (lv' := [(2, .int (L2_x2 + 1)), (0, .ref b0), (1, .int x1)]) hx hb dX2_kindAt_36 hl (k := 2) rfl rfl (by decide) rfl (fun ls hl => ?_)
          refine lv_goto (tgt := 2) hx hb dX2_kindAt_39 (by decide) ?_
          exact ih _ hf _ _ hM _ (lv_sub hl [1, 2, 0] rfl)
        · rw [if_pos hcd] at hf
          refine lv_iload_n hx hb dX2_kindAt_34 rfl (lv_at hl 2 rfl) ?_
          cases hf
          exact hret hM dX2_kindAt_35 rfl ⟨rfl, rfl⟩
  exact L2 K _ hf _ _ hM _ (lv_sub hl [1, 2, 0] rfl)
def f_X2_longestMatch_L4 (K : Nat) (p0_signs : Nat → Int32) (p0_length : Int32) (x1 : Int32) : Nat → (Int32) → (Int32) → Option (Int32)
  | 0, _, _ => none
  | n + 1, x2, x3 => if 11 ≤ x3 then some x2 else mm_g (mm_ck x3 11) ((f_X1_matchedSigns K p0_signs p0_length x1 x3.toNatClampNeg).bind fun q20 => f_X2_longestMatch_L4 K p0_signs p0_length x1 n (if x2 < q20 then q20 else x2) (x3 + 1))
def f_X2_longestMatch (K : Nat) (p0_signs : Nat → Int32) (p0_length : Int32) (x1 : Int32) : Option (Int32) := (f_X2_longestMatch_L4 K p0_signs p0_length x1 K 0 0).bind fun q4 => some q4
set_option maxHeartbeats 4000000 in
set_option maxRecDepth 100000 in
theorem c_X2_longestMatch (l : Launch) {G : mm_G} {K : Nat} {w : va_W} {sz : Nat} {b0 : Nat} {p0_signs : Nat → Int32} {p0_length : Int32} {x1 : Int32} {X : Int32} (hf : f_X2_longestMatch K p0_signs p0_length x1 = some X) (hp_p0 : At10 G w b0 p0_signs p0_length) : Met l yX2_longestMatch (Cond.code yX2_longestMatch cX2_longestMatch 4 (some .int) :: gAll) ({ frames := 5, cells := 0, slots := 0, locals := 145 }) (va_Pc [.ref b0, .int x1] (mm_Pre G w sz)) (mm_Qi G w sz (fun r w' => r = X ∧ w' = w)) 0 0 (va_A w sz) := by
  refine mm_headI [.ref b0, .int x1] (by decide +kernel) rfl (Nat.le_of_ble_eq_true rfl) ?_
  intro p e s m args below meth c A Q hsz hC hM hret ls hl
  have hx := hC.1.1
  have hb := hC.1.2.1
  have hl : lv_has ls 4 [(0, .ref b0), (1, .int x1)] := hl
  rw [f_X2_longestMatch] at hf
  refine lv_iconst (v := 0) hx hb dX2_longestMatch_0 (by decide) ?_
  refine lv_istore_n (lv' := [(2, .int 0), (0, .ref b0), (1, .int x1)]) hx hb dX2_longestMatch_1 rfl hl (by decide) rfl (fun ls hl => ?_)
  refine lv_iconst (v := 0) hx hb dX2_longestMatch_2 (by decide) ?_
  refine lv_istore_n (lv' := [(3, .int 0), (2, .int 0), (0, .ref b0), (1, .int x1)]) hx hb dX2_longestMatch_3 rfl hl (by decide) rfl (fun ls hl => ?_)
  have L4 : ∀ (n : Nat) (L4_x2 : Int32) (L4_x3 : Int32) (X : Int32), f_X2_longestMatch_L4 K p0_signs p0_length x1 n L4_x2 L4_x3 = some X → ∀ (H : Heap) (locs : List Loc), mm_S G A s.heap w H locs → ∀ (ls : Array Slot), lv_has ls 4 [(0, .ref b0), (1, .int x1), (2, .int L4_x2), (3, .int L4_x3)] → (∀ (H : Heap) (locs : List Loc), mm_S G A s.heap w H locs → ∀ (ls : Array Slot), lv_has ls 4 [(2, .int X)] → W p l e ({ frames := 5, cells := 0, slots := 0, locals := 145 } : Room) s m args below meth c H locs 0 0 Q (F0 m 33 ls [])) → W p l e ({ frames := 5, cells := 0, slots := 0, locals := 145 } : Room) s m args below meth c H locs 0 0 Q (F0 m 4 ls []) := by
    intro n
    induction n with
    | zero => intro L4_x2 L4_x3 X hf; cases hf
    | succ n ih =>
      intro L4_x2 L4_x3 X hf H locs hM ls hl hk
      rw [f_X2_longestMatch_L4] at hf
      refine lv_iload_n hx hb dX2_longestMatch_4 rfl (lv_at hl 3 rfl) ?_
      refine va_getsN hx hb hC.2.2.1.2.2.2.2.1.1 hM.2.2 hC.1.2.2.2.1 (va_Nw.use rfl (hC.2.2.1.1.1 _ q6_19)) (fun _ h => h) dX2_longestMatch_5 ?_
      refine va_tlen (v := 11) hx hb hC.2.2.1.2.2.2.2.1.2 hM.2.2 rfl dX2_longestMatch_8 ?_
      refine lv_icmp_ge (tgt := 33) hx hb dX2_longestMatch_9 (by decide) (fun hcd => ?_) (fun hcd => ?_)
      · rw [if_pos hcd] at hf
        cases hf
        exact hk _ _ hM _ (lv_sub hl [2] rfl)
      · rw [if_neg hcd] at hf
        refine lv_iload_n hx hb dX2_longestMatch_12 rfl (lv_at hl 2 rfl) ?_
        refine va_getsN hx hb hC.2.2.1.2.2.2.2.1.1 hM.2.2 hC.1.2.2.2.1 (va_Nw.use rfl (hC.2.2.1.1.1 _ q6_19)) (fun _ h => h) dX2_longestMatch_13 ?_
        refine lv_iload_n hx hb dX2_longestMatch_16 rfl (lv_at hl 3 rfl) ?_
        obtain ⟨hg17, hf⟩ := mm_gd hf
        refine mm_taald hx hb hC.2.2.1.2.2.2.2.1.2 hM.2.2 hg17 rfl dX2_longestMatch_17 ?_
        refine lv_aload_n hx hb dX2_longestMatch_18 rfl (lv_at hl 0 rfl) ?_
        refine lv_iload_n hx hb dX2_longestMatch_19 rfl (lv_at hl 1 rfl) ?_
        obtain ⟨q20, hq20, hf⟩ := mm_bd hf
        refine mm_Ri (rest := [.int L4_x2]) hC hM (c_X1_matchedSigns l hq20 hp_p0 (mm_klt hg17)) q6_24 q1_30 ykX1_matchedSigns q6_21 q6_22 q6_23 (va_recvE (i := L4_x3.toNatClampNeg) hC.2.2.1.2.2.2.2.2.2.1 (mm_klt hg17) hM.2.2) ⟨rfl, rfl⟩ ⟨Nat.le_of_ble_eq_true rfl, Nat.le_of_ble_eq_true rfl⟩ rfl hl.1 rfl (Nat.le_of_ble_eq_true rfl) dX2_longestMatch_20 ⟨Nat.le_of_ble_eq_true rfl, Nat.le_of_ble_eq_true rfl⟩ (fun r w20 H locs hM hw => ?_)
        obtain ⟨hr, hw⟩ := hw
        rw [hr]
        rw [hw] at hM
        refine va_mmax hx hb (hC.1.2.2.1.trans hl.1.symm) hC.1.2.2.2.1 (hC.1.2.2.2.2 _ q6_84) (hC.1.2.2.2.2 _ q6_85) (hC.1.2.2.2.2 _ q1_24) (hC.1.2.2.2.2 _ q6_86) (Nat.le_of_ble_eq_true rfl) (Nat.le_of_ble_eq_true rfl) (Nat.le_of_ble_eq_true rfl) (Nat.le_of_ble_eq_true rfl) dX2_longestMatch_23 ?_
        refine lv_istore_n (lv' := [(2, .int (if L4_x2 < q20 then q20 else L4_x2)), (0, .ref b0), (1, .int x1), (3, .int L4_x3)]) hx hb dX2_longestMatch_26 rfl hl (by decide) rfl (fun ls hl => ?_)
        refine lv_iinc (v := (L4_x3 + 1)) (lv' := [(3, .int (L4_x3 + 1)), (2, .int (if L4_x2 < q20 then q20 else L4_x2)), (0, .ref b0), (1, .int x1)]) hx hb dX2_longestMatch_27 hl (k := 3) rfl rfl (by decide) rfl (fun ls hl => ?_)
        refine lv_goto (tgt := 4) hx hb dX2_longestMatch_30 (by decide) ?_
        exact ih _ _ _ hf _ _ hM _ (lv_sub hl [2, 3, 1, 0] rfl) hk
  obtain ⟨q4, hq4, hf⟩ := mm_bd hf
  refine L4 K _ _ _ hq4 _ _ hM _ (lv_sub hl [2, 3, 1, 0] rfl) (fun H locs hM ls hl => ?_)
  refine lv_iload_n hx hb dX2_longestMatch_33 rfl (lv_at hl 0 rfl) ?_
  cases hf
  exact hret hM dX2_longestMatch_34 rfl ⟨rfl, rfl⟩
def f_X2_readAll_L7 (K : Nat) (p1_signs : Nat → Int32) (p1_length : Int32) : Nat → (Int32) → (Nat → Int32) → (Nat → Int32) → (Int32) → Option (Int32 × (Nat → Int32) × (Nat → Int32) × Int32)
  | 0, _, _, _, _ => none
  | n + 1, x2, kinds, starts, count => if 60 ≤ count then some (x2, kinds, starts, count) else (f_X2_kindAt K p1_signs p1_length x2).bind fun q18 => if q18 = (-1) then (f_X2_longestMatch K p1_signs p1_length x2).bind fun q30 => some ((x2 + q30), kinds, starts, count) else mm_g (mm_ck count 60) (mm_g (mm_ck count 60) (mm_g (mm_ck q18 11) ((f_X1_endIn K p1_signs p1_length x2 q18.toNatClampNeg).bind fun q72 => if q72 = p1_length then some ((-1), (upd kinds count.toNatClampNeg q18), (upd starts count.toNatClampNeg x2), (count + 1)) else (f_X10_signAt p1_signs p1_length q72).bind fun q91 => if q91 = 59 then f_X2_readAll_L7 K p1_signs p1_length n (q72 + 1) (upd kinds count.toNatClampNeg q18) (upd starts count.toNatClampNeg x2) (count + 1) else some (q72, (upd kinds count.toNatClampNeg q18), (upd starts count.toNatClampNeg x2), (count + 1)))))
def f_X2_readAll (K : Nat) (kinds : Nat → Int32) (starts : Nat → Int32) (p1_signs : Nat → Int32) (p1_length : Int32) : Option (Int32 × (Nat → Int32) × (Nat → Int32) × Int32) := f_X2_readAll_L7 K p1_signs p1_length K 0 kinds starts 0
set_option maxHeartbeats 4000000 in
set_option maxRecDepth 100000 in
theorem c_X2_readAll (l : Launch) {G : mm_G} {K : Nat} {w : va_W} {sz : Nat} {b : Nat} {b1 : Nat} {kinds : Nat → Int32} {starts : Nat → Int32} {count : Int32} {p1_signs : Nat → Int32} {p1_length : Int32} {X : Int32 × (Nat → Int32) × (Nat → Int32) × Int32} (hf : f_X2_readAll K kinds starts p1_signs p1_length = some X) (hp_this : At2 G w b kinds starts count) (hp_p1 : At10 G w b1 p1_signs p1_length) (hd0 : b + 3 ≤ b1 ∨ b1 + 2 ≤ b) : Met l yX2_readAll (Cond.code yX2_readAll cX2_readAll 5 (some .int) :: gAll) ({ frames := 6, cells := 0, slots := 0, locals := 168 }) (va_Pc [.ref b, .ref b1] (mm_Pre G w sz)) (mm_Qi G w sz (fun r w' => r = X.1 ∧ At2 G w' b X.2.1 X.2.2.1 X.2.2.2 ∧ mm_fr w w' b (b + 3))) 0 0 (va_A w sz) := by
  refine mm_headI [.ref b, .ref b1] (by decide +kernel) rfl (Nat.le_of_ble_eq_true rfl) ?_
  intro p e s m args below meth c A Q hsz hC hM hret ls hl
  have hx := hC.1.1
  have hb := hC.1.2.1
  have hl : lv_has ls 5 [(0, .ref b), (1, .ref b1)] := hl
  have hF : mm_fr w w b (b + 3) := mm_fr.rf
  rw [f_X2_readAll] at hf
  refine lv_aload_n hx hb dX2_readAll_0 rfl (lv_at hl 0 rfl) ?_
  refine lv_iconst (v := 0) hx hb dX2_readAll_1 (by decide) ?_
  refine mm_put hC hM (k := 2) tyX2 hp_this.1 rfl inAX2 tyX2_ok nmX2 (by decide) q1_231 rfl rfl rfl rfl (Nat.le_of_ble_eq_true rfl) dX2_readAll_2 (fun w2 H locs hM hm => ?_)
  have hp_this : At2 G w2 b kinds starts 0 := ⟨hm.1, hm.keep (hp_this.2.1) (by omega), hm.keep (hp_this.2.2) (by omega)⟩
  have hp_p1 := hp_p1.up hm (by omega)
  have hF := hF.tr (hm.fr (by omega) (by omega))
  refine lv_iconst (v := 0) hx hb dX2_readAll_5 (by decide) ?_
  refine lv_istore_n (lv' := [(2, .int 0), (0, .ref b), (1, .ref b1)]) hx hb dX2_readAll_6 rfl hl (by decide) rfl (fun ls hl => ?_)
  have L7 : ∀ (n : Nat) (L7_x2 : Int32) (L7_kinds : Nat → Int32) (L7_starts : Nat → Int32) (L7_count : Int32), f_X2_readAll_L7 K p1_signs p1_length n L7_x2 L7_kinds L7_starts L7_count = some X → ∀ (L7_w : va_W) (H : Heap) (locs : List Loc), mm_S G A s.heap L7_w H locs → At2 G L7_w b L7_kinds L7_starts L7_count → At10 G L7_w b1 p1_signs p1_length → mm_fr w L7_w b (b + 3) → ∀ (ls : Array Slot), lv_has ls 5 [(0, .ref b), (1, .ref b1), (2, .int L7_x2)] → W p l e ({ frames := 6, cells := 0, slots := 0, locals := 168 } : Room) s m args below meth c H locs 0 0 Q (F0 m 7 ls []) := by
    intro n
    induction n with
    | zero => intro L7_x2 L7_kinds L7_starts L7_count hf; cases hf
    | succ n ih =>
      intro L7_x2 L7_kinds L7_starts L7_count hf L7_w H locs hM hp_this hp_p1 hF ls hl
      rw [f_X2_readAll_L7] at hf
      refine lv_aload_n hx hb dX2_readAll_7 rfl (lv_at hl 0 rfl) ?_
      refine mm_get hC hM (k := 2) hp_this.1 rfl inAX2 (by decide) q1_231 rfl dX2_readAll_8 ?_
      refine lv_bipush (v := 60) hx hb dX2_readAll_11 (by decide) ?_
      refine lv_icmp_ge (tgt := 110) hx hb dX2_readAll_13 (by decide) (fun hcd => ?_) (fun hcd => ?_)
      · rw [if_pos hcd] at hf
        refine lv_iload_n hx hb dX2_readAll_110 rfl (lv_at hl 2 rfl) ?_
        cases hf
        exact hret hM dX2_readAll_111 rfl ⟨rfl, hp_this, hF⟩
      · rw [if_neg hcd] at hf
        refine lv_aload_n hx hb dX2_readAll_16 rfl (lv_at hl 1 rfl) ?_
        refine lv_iload_n hx hb dX2_readAll_17 rfl (lv_at hl 2 rfl) ?_
        obtain ⟨q18, hq18, hf⟩ := mm_bd hf
        refine mm_Si (rest := []) hC hM (c_X2_kindAt l hq18 hp_p1) q6_18 q1_10 ykX2_kindAt q6_16 q6_17 ⟨rfl, rfl⟩ ⟨Nat.le_of_ble_eq_true rfl, Nat.le_of_ble_eq_true rfl⟩ rfl hl.1 rfl (Nat.le_of_ble_eq_true rfl) dX2_readAll_18 ⟨Nat.le_of_ble_eq_true rfl, Nat.le_of_ble_eq_true rfl⟩ (fun r w18 H locs hM hw => ?_)
        obtain ⟨hr, hw⟩ := hw
        rw [hr]
        rw [hw] at hM
        refine lv_istore_n (lv' := [(3, .int q18), (0, .ref b), (1, .ref b1), (2, .int L7_x2)]) hx hb dX2_readAll_21 rfl hl (by decide) rfl (fun ls hl => ?_)
        refine lv_iload_n hx hb dX2_readAll_22 rfl (lv_at hl 0 rfl) ?_
        refine lv_iconst (v := (-1)) hx hb dX2_readAll_23 (by decide) ?_
        refine lv_icmp_ne (tgt := 35) hx hb dX2_readAll_24 (by decide) (fun hcd => ?_) (fun hcd => ?_)
        · rw [if_neg hcd] at hf
          refine lv_aload_n hx hb dX2_readAll_35 rfl (lv_at hl 1 rfl) ?_
          refine mm_get hC hM (k := 0) hp_this.1 rfl inAX2 (by decide) q1_227 rfl dX2_readAll_36 ?_
          refine lv_aload_n hx hb dX2_readAll_39 rfl (lv_at hl 1 rfl) ?_
          refine mm_get hC hM (k := 2) hp_this.1 rfl inAX2 (by decide) q1_231 rfl dX2_readAll_40 ?_
          refine lv_iload_n hx hb dX2_readAll_43 rfl (lv_at hl 0 rfl) ?_
          obtain ⟨hg44, hf⟩ := mm_gd hf
          refine mm_iast hC hM (hp_this.2.1) hg44 dX2_readAll_44 (fun w44 H locs hM hm => ?_)
          have hp_this : At2 G w44 b (upd L7_kinds L7_count.toNatClampNeg q18) L7_starts L7_count := ⟨hm.keep (hp_this.1) (by omega), hm.1, hm.keep (hp_this.2.2) (by omega)⟩
          have hp_p1 := hp_p1.up hm (by omega)
          have hF := hF.tr (hm.fr (by omega) (by omega))
          refine lv_aload_n hx hb dX2_readAll_45 rfl (lv_at hl 1 rfl) ?_
          refine mm_get hC hM (k := 1) hp_this.1 rfl inAX2 (by decide) q1_229 rfl dX2_readAll_46 ?_
          refine lv_aload_n hx hb dX2_readAll_49 rfl (lv_at hl 1 rfl) ?_
          refine mm_get hC hM (k := 2) hp_this.1 rfl inAX2 (by decide) q1_231 rfl dX2_readAll_50 ?_
          refine lv_iload_n hx hb dX2_readAll_53 rfl (lv_at hl 3 rfl) ?_
          obtain ⟨hg54, hf⟩ := mm_gd hf
          refine mm_iast hC hM (hp_this.2.2) hg54 dX2_readAll_54 (fun w54 H locs hM hm => ?_)
          have hp_this : At2 G w54 b (upd L7_kinds L7_count.toNatClampNeg q18) (upd L7_starts L7_count.toNatClampNeg L7_x2) L7_count := ⟨hm.keep (hp_this.1) (by omega), hm.keep (hp_this.2.1) (by omega), hm.1⟩
          have hp_p1 := hp_p1.up hm (by omega)
          have hF := hF.tr (hm.fr (by omega) (by omega))
          refine lv_aload_n hx hb dX2_readAll_55 rfl (lv_at hl 1 rfl) ?_
          refine lv_dup hx hb dX2_readAll_56 rfl ?_
          refine mm_get hC hM (k := 2) hp_this.1 rfl inAX2 (by decide) q1_231 rfl dX2_readAll_57 ?_
          refine lv_iconst (v := 1) hx hb dX2_readAll_60 (by decide) ?_
          refine lv_iadd hx hb dX2_readAll_61 ?_
          refine mm_put hC hM (k := 2) tyX2 hp_this.1 rfl inAX2 tyX2_ok nmX2 (by decide) q1_231 rfl rfl rfl rfl (Nat.le_of_ble_eq_true rfl) dX2_readAll_62 (fun w62 H locs hM hm => ?_)
          have hp_this : At2 G w62 b (upd L7_kinds L7_count.toNatClampNeg q18) (upd L7_starts L7_count.toNatClampNeg L7_x2) (L7_count + 1) := ⟨hm.1, hm.keep (hp_this.2.1) (by omega), hm.keep (hp_this.2.2) (by omega)⟩
          have hp_p1 := hp_p1.up hm (by omega)
          have hF := hF.tr (hm.fr (by omega) (by omega))
          refine va_getsN hx hb hC.2.2.1.2.2.2.2.1.1 hM.2.2 hC.1.2.2.2.1 (va_Nw.use rfl (hC.2.2.1.1.1 _ q6_19)) (fun _ h => h) dX2_readAll_65 ?_
          refine lv_iload_n hx hb dX2_readAll_68 rfl (lv_at hl 0 rfl) ?_
          obtain ⟨hg69, hf⟩ := mm_gd hf
          refine mm_taald hx hb hC.2.2.1.2.2.2.2.1.2 hM.2.2 hg69 rfl dX2_readAll_69 ?_
          refine lv_aload_n hx hb dX2_readAll_70 rfl (lv_at hl 2 rfl) ?_
          refine lv_iload_n hx hb dX2_readAll_71 rfl (lv_at hl 3 rfl) ?_
          obtain ⟨q72, hq72, hf⟩ := mm_bd hf
          refine mm_Ri (rest := []) hC hM (c_X1_endIn l hq72 hp_p1 (mm_klt hg69)) q6_90 q1_30 ykX1_endIn q6_87 q6_88 q6_89 (va_recvE (i := q18.toNatClampNeg) hC.2.2.1.2.2.2.2.2.2.1 (mm_klt hg69) hM.2.2) ⟨rfl, rfl⟩ ⟨Nat.le_of_ble_eq_true rfl, Nat.le_of_ble_eq_true rfl⟩ rfl hl.1 rfl (Nat.le_of_ble_eq_true rfl) dX2_readAll_72 ⟨Nat.le_of_ble_eq_true rfl, Nat.le_of_ble_eq_true rfl⟩ (fun r w72 H locs hM hw => ?_)
          obtain ⟨hr, hw⟩ := hw
          rw [hr]
          rw [hw] at hM
          refine lv_istore (lv' := [(4, .int q72), (3, .int q18), (0, .ref b), (1, .ref b1), (2, .int L7_x2)]) hx hb dX2_readAll_75 hl (by decide) rfl (fun ls hl => ?_)
          refine lv_iload hx hb dX2_readAll_77 (lv_at hl 0 rfl) ?_
          refine lv_aload_n hx hb dX2_readAll_79 rfl (lv_at hl 3 rfl) ?_
          refine mm_get hC hM (k := 1) hp_p1.1 rfl inAX10 (by decide) q2_8 rfl dX2_readAll_80 ?_
          refine lv_icmp_ne (tgt := 88) hx hb dX2_readAll_83 (by decide) (fun hcd => ?_) (fun hcd => ?_)
          · rw [if_neg hcd] at hf
            refine lv_aload_n hx hb dX2_readAll_88 rfl (lv_at hl 3 rfl) ?_
            refine lv_iload hx hb dX2_readAll_89 (lv_at hl 0 rfl) ?_
            obtain ⟨q91, hq91, hf⟩ := mm_bd hf
            refine mm_Vi (rest := []) hC hM (c_X10_signAt l hq91 hp_p1) q6_76 q1_11 ykX10_signAt q6_99 q6_74 q6_75 hp_p1.1 rfl ⟨rfl, rfl⟩ ⟨Nat.le_of_ble_eq_true rfl, Nat.le_of_ble_eq_true rfl⟩ rfl hl.1 rfl (Nat.le_of_ble_eq_true rfl) dX2_readAll_91 ⟨Nat.le_of_ble_eq_true rfl, Nat.le_of_ble_eq_true rfl⟩ (fun r w91 H locs hM hw => ?_)
            obtain ⟨hr, hw⟩ := hw
            rw [hr]
            rw [hw] at hM
            refine lv_bipush (v := 59) hx hb dX2_readAll_94 (by decide) ?_
            refine lv_icmp_eq (tgt := 102) hx hb dX2_readAll_96 (by decide) (fun hcd => ?_) (fun hcd => ?_)
            · rw [if_pos hcd] at hf
              refine lv_iload hx hb dX2_readAll_102 (lv_at hl 0 rfl) ?_
              refine lv_iconst (v := 1) hx hb dX2_readAll_104 (by decide) ?_
              refine lv_iadd hx hb dX2_readAll_105 ?_
              refine lv_istore_n (lv' := [(2, .int (q72 + 1)), (4, .int q72), (3, .int q18), (0, .ref b), (1, .ref b1)]) hx hb dX2_readAll_106 rfl hl (by decide) rfl (fun ls hl => ?_)
              refine lv_goto (tgt := 7) hx hb dX2_readAll_107 (by decide) ?_
              exact ih _ _ _ _ hf _ _ _ hM hp_this hp_p1 hF _ (lv_sub hl [3, 4, 0] rfl)
            · rw [if_neg hcd] at hf
              refine lv_iload hx hb dX2_readAll_99 (lv_at hl 0 rfl) ?_
              cases hf
              exact hret hM dX2_readAll_101 rfl ⟨rfl, hp_this, hF⟩
          · rw [if_pos hcd] at hf
            refine lv_iconst (v := (-1)) hx hb dX2_readAll_86 (by decide) ?_
            cases hf
            exact hret hM dX2_readAll_87 rfl ⟨rfl, hp_this, hF⟩
        · rw [if_pos hcd] at hf
          refine lv_iload_n hx hb dX2_readAll_27 rfl (lv_at hl 3 rfl) ?_
          refine lv_aload_n hx hb dX2_readAll_28 rfl (lv_at hl 2 rfl) ?_
          refine lv_iload_n hx hb dX2_readAll_29 rfl (lv_at hl 3 rfl) ?_
          obtain ⟨q30, hq30, hf⟩ := mm_bd hf
          refine mm_Si (rest := [.int L7_x2]) hC hM (c_X2_longestMatch l hq30 hp_p1) q6_83 q1_10 ykX2_longestMatch q6_81 q6_82 ⟨rfl, rfl⟩ ⟨Nat.le_of_ble_eq_true rfl, Nat.le_of_ble_eq_true rfl⟩ rfl hl.1 rfl (Nat.le_of_ble_eq_true rfl) dX2_readAll_30 ⟨Nat.le_of_ble_eq_true rfl, Nat.le_of_ble_eq_true rfl⟩ (fun r w30 H locs hM hw => ?_)
          obtain ⟨hr, hw⟩ := hw
          rw [hr]
          rw [hw] at hM
          refine lv_iadd hx hb dX2_readAll_33 ?_
          cases hf
          exact hret hM dX2_readAll_34 rfl ⟨rfl, hp_this, hF⟩
  exact L7 K _ _ _ _ hf _ _ _ hM hp_this hp_p1 hF _ (lv_sub hl [1, 2, 0] rfl)
