def f_X12_cellAt (x0 : Int32) (x1 : Int32) : Option (Int32) := if x0 < 0 then some (-1) else if 9 ≤ x0 then some (-1) else if x1 < 0 then some (-1) else if 9 ≤ x1 then some (-1) else some ((x1 * 9) + x0)
set_option maxHeartbeats 4000000 in
set_option maxRecDepth 100000 in
theorem c_X12_cellAt (l : Launch) {G : mm_G} {w : va_W} {sz : Nat} {x0 : Int32} {x1 : Int32} {X : Int32} (hf : f_X12_cellAt x0 x1 = some X) : Met l yX12_cellAt (Cond.code yX12_cellAt cX12_cellAt 3 (some .int) :: gAll) ({ frames := 0, cells := 0, slots := 0, locals := 0 }) (va_Pc [.int x0, .int x1] (mm_Pre G w sz)) (mm_Qi G w sz (fun r w' => r = X ∧ w' = w)) 0 0 (va_A w sz) := by
  refine mm_headI [.int x0, .int x1] (by decide +kernel) rfl (Nat.le_of_ble_eq_true rfl) ?_
  intro p e s m args below meth c A Q hsz hC hM hret ls hl
  have hx := hC.1.1
  have hb := hC.1.2.1
  have hl : lv_has ls 3 [(0, .int x0), (1, .int x1)] := hl
  rw [f_X12_cellAt] at hf
  refine lv_iload_n hx hb dX12_cellAt_0 rfl (lv_at hl 0 rfl) ?_
  refine lv_if_lt (tgt := 24) hx hb dX12_cellAt_1 (by decide) (fun hcd => ?_) (fun hcd => ?_)
  · rw [if_pos hcd] at hf
    refine lv_iconst (v := 0) hx hb dX12_cellAt_24 (by decide) ?_
    refine lv_istore_n (lv' := [(2, .int 0), (0, .int x0), (1, .int x1)]) hx hb dX12_cellAt_25 rfl hl (by decide) rfl (fun ls hl => ?_)
    refine lv_iload_n hx hb dX12_cellAt_26 rfl (lv_at hl 0 rfl) ?_
    refine lv_if_eq (tgt := 39) hx hb dX12_cellAt_27 (by decide) (fun _ => ?_) (fun c => absurd (by decide) c)
    refine lv_iconst (v := (-1)) hx hb dX12_cellAt_39 (by decide) ?_
    cases hf
    exact hret hM dX12_cellAt_40 rfl ⟨rfl, rfl⟩
  · rw [if_neg hcd] at hf
    refine lv_iload_n hx hb dX12_cellAt_4 rfl (lv_at hl 0 rfl) ?_
    refine lv_bipush (v := 9) hx hb dX12_cellAt_5 (by decide) ?_
    refine lv_icmp_ge (tgt := 24) hx hb dX12_cellAt_7 (by decide) (fun hcd => ?_) (fun hcd => ?_)
    · rw [if_pos hcd] at hf
      refine lv_iconst (v := 0) hx hb dX12_cellAt_24 (by decide) ?_
      refine lv_istore_n (lv' := [(2, .int 0), (0, .int x0), (1, .int x1)]) hx hb dX12_cellAt_25 rfl hl (by decide) rfl (fun ls hl => ?_)
      refine lv_iload_n hx hb dX12_cellAt_26 rfl (lv_at hl 0 rfl) ?_
      refine lv_if_eq (tgt := 39) hx hb dX12_cellAt_27 (by decide) (fun _ => ?_) (fun c => absurd (by decide) c)
      refine lv_iconst (v := (-1)) hx hb dX12_cellAt_39 (by decide) ?_
      cases hf
      exact hret hM dX12_cellAt_40 rfl ⟨rfl, rfl⟩
    · rw [if_neg hcd] at hf
      refine lv_iload_n hx hb dX12_cellAt_10 rfl (lv_at hl 1 rfl) ?_
      refine lv_if_lt (tgt := 24) hx hb dX12_cellAt_11 (by decide) (fun hcd => ?_) (fun hcd => ?_)
      · rw [if_pos hcd] at hf
        refine lv_iconst (v := 0) hx hb dX12_cellAt_24 (by decide) ?_
        refine lv_istore_n (lv' := [(2, .int 0), (0, .int x0), (1, .int x1)]) hx hb dX12_cellAt_25 rfl hl (by decide) rfl (fun ls hl => ?_)
        refine lv_iload_n hx hb dX12_cellAt_26 rfl (lv_at hl 0 rfl) ?_
        refine lv_if_eq (tgt := 39) hx hb dX12_cellAt_27 (by decide) (fun _ => ?_) (fun c => absurd (by decide) c)
        refine lv_iconst (v := (-1)) hx hb dX12_cellAt_39 (by decide) ?_
        cases hf
        exact hret hM dX12_cellAt_40 rfl ⟨rfl, rfl⟩
      · rw [if_neg hcd] at hf
        refine lv_iload_n hx hb dX12_cellAt_14 rfl (lv_at hl 1 rfl) ?_
        refine lv_bipush (v := 9) hx hb dX12_cellAt_15 (by decide) ?_
        refine lv_icmp_ge (tgt := 24) hx hb dX12_cellAt_17 (by decide) (fun hcd => ?_) (fun hcd => ?_)
        · rw [if_pos hcd] at hf
          refine lv_iconst (v := 0) hx hb dX12_cellAt_24 (by decide) ?_
          refine lv_istore_n (lv' := [(2, .int 0), (0, .int x0), (1, .int x1)]) hx hb dX12_cellAt_25 rfl hl (by decide) rfl (fun ls hl => ?_)
          refine lv_iload_n hx hb dX12_cellAt_26 rfl (lv_at hl 0 rfl) ?_
          refine lv_if_eq (tgt := 39) hx hb dX12_cellAt_27 (by decide) (fun _ => ?_) (fun c => absurd (by decide) c)
          refine lv_iconst (v := (-1)) hx hb dX12_cellAt_39 (by decide) ?_
          cases hf
          exact hret hM dX12_cellAt_40 rfl ⟨rfl, rfl⟩
        · rw [if_neg hcd] at hf
          refine lv_iconst (v := 1) hx hb dX12_cellAt_20 (by decide) ?_
          refine lv_goto (tgt := 25) hx hb dX12_cellAt_21 (by decide) ?_
          refine lv_istore_n (lv' := [(2, .int 1), (0, .int x0), (1, .int x1)]) hx hb dX12_cellAt_25 rfl hl (by decide) rfl (fun ls hl => ?_)
          refine lv_iload_n hx hb dX12_cellAt_26 rfl (lv_at hl 0 rfl) ?_
          refine lv_if_eq (tgt := 39) hx hb dX12_cellAt_27 (by decide) (fun c => absurd c (by decide)) (fun _ => ?_)
          refine lv_iload_n hx hb dX12_cellAt_30 rfl (lv_at hl 2 rfl) ?_
          refine lv_bipush (v := 9) hx hb dX12_cellAt_31 (by decide) ?_
          refine lv_imul hx hb dX12_cellAt_33 ?_
          refine lv_iload_n hx hb dX12_cellAt_34 rfl (lv_at hl 1 rfl) ?_
          refine lv_iadd hx hb dX12_cellAt_35 ?_
          refine lv_goto (tgt := 40) hx hb dX12_cellAt_36 (by decide) ?_
          cases hf
          exact hret hM dX12_cellAt_40 rfl ⟨rfl, rfl⟩
def f_X12_column (x0 : Int32) : Option (Int32) := some (x0 - x0 / 9 * 9)
set_option maxHeartbeats 4000000 in
set_option maxRecDepth 100000 in
theorem c_X12_column (l : Launch) {G : mm_G} {w : va_W} {sz : Nat} {x0 : Int32} {X : Int32} (hf : f_X12_column x0 = some X) : Met l yX12_column (Cond.code yX12_column cX12_column 1 (some .int) :: gAll) ({ frames := 0, cells := 0, slots := 0, locals := 0 }) (va_Pc [.int x0] (mm_Pre G w sz)) (mm_Qi G w sz (fun r w' => r = X ∧ w' = w)) 0 0 (va_A w sz) := by
  refine mm_headI [.int x0] (by decide +kernel) rfl (Nat.le_of_ble_eq_true rfl) ?_
  intro p e s m args below meth c A Q hsz hC hM hret ls hl
  have hx := hC.1.1
  have hb := hC.1.2.1
  have hl : lv_has ls 1 [(0, .int x0)] := hl
  rw [f_X12_column] at hf
  refine lv_iload_n hx hb dX12_column_0 rfl (lv_at hl 0 rfl) ?_
  refine lv_bipush (v := 9) hx hb dX12_column_1 (by decide) ?_
  refine lv_irem hx hb dX12_column_3 (by decide) ?_
  cases hf
  exact hret hM dX12_column_4 rfl ⟨rfl, rfl⟩
def f_X12_row (x0 : Int32) : Option (Int32) := some (x0 / 9)
set_option maxHeartbeats 4000000 in
set_option maxRecDepth 100000 in
theorem c_X12_row (l : Launch) {G : mm_G} {w : va_W} {sz : Nat} {x0 : Int32} {X : Int32} (hf : f_X12_row x0 = some X) : Met l yX12_row (Cond.code yX12_row cX12_row 1 (some .int) :: gAll) ({ frames := 0, cells := 0, slots := 0, locals := 0 }) (va_Pc [.int x0] (mm_Pre G w sz)) (mm_Qi G w sz (fun r w' => r = X ∧ w' = w)) 0 0 (va_A w sz) := by
  refine mm_headI [.int x0] (by decide +kernel) rfl (Nat.le_of_ble_eq_true rfl) ?_
  intro p e s m args below meth c A Q hsz hC hM hret ls hl
  have hx := hC.1.1
  have hb := hC.1.2.1
  have hl : lv_has ls 1 [(0, .int x0)] := hl
  rw [f_X12_row] at hf
  refine lv_iload_n hx hb dX12_row_0 rfl (lv_at hl 0 rfl) ?_
  refine lv_bipush (v := 9) hx hb dX12_row_1 (by decide) ?_
  refine lv_idiv hx hb dX12_row_3 (by decide) ?_
  cases hf
  exact hret hM dX12_row_4 rfl ⟨rfl, rfl⟩
def f_X12_image (x0 : Int32) : Option (Int32) := some (((x0 + 9) - 1) - (2 * (x0 - x0 / 9 * 9)))
set_option maxHeartbeats 4000000 in
set_option maxRecDepth 100000 in
theorem c_X12_image (l : Launch) {G : mm_G} {w : va_W} {sz : Nat} {x0 : Int32} {X : Int32} (hf : f_X12_image x0 = some X) : Met l yX12_image (Cond.code yX12_image cX12_image 1 (some .int) :: gAll) ({ frames := 0, cells := 0, slots := 0, locals := 0 }) (va_Pc [.int x0] (mm_Pre G w sz)) (mm_Qi G w sz (fun r w' => r = X ∧ w' = w)) 0 0 (va_A w sz) := by
  refine mm_headI [.int x0] (by decide +kernel) rfl (Nat.le_of_ble_eq_true rfl) ?_
  intro p e s m args below meth c A Q hsz hC hM hret ls hl
  have hx := hC.1.1
  have hb := hC.1.2.1
  have hl : lv_has ls 1 [(0, .int x0)] := hl
  rw [f_X12_image] at hf
  refine lv_iload_n hx hb dX12_image_0 rfl (lv_at hl 0 rfl) ?_
  refine lv_bipush (v := 9) hx hb dX12_image_1 (by decide) ?_
  refine lv_iadd hx hb dX12_image_3 ?_
  refine lv_iconst (v := 1) hx hb dX12_image_4 (by decide) ?_
  refine lv_isub hx hb dX12_image_5 ?_
  refine lv_iconst (v := 2) hx hb dX12_image_6 (by decide) ?_
  refine lv_iload_n hx hb dX12_image_7 rfl (lv_at hl 0 rfl) ?_
  refine lv_bipush (v := 9) hx hb dX12_image_8 (by decide) ?_
  refine lv_irem hx hb dX12_image_10 (by decide) ?_
  refine lv_imul hx hb dX12_image_11 ?_
  refine lv_isub hx hb dX12_image_12 ?_
  cases hf
  exact hret hM dX12_image_13 rfl ⟨rfl, rfl⟩
def f_X12_neighbour (x0 : Int32) (x1 : Int32) : Option (Int32) := mm_g (mm_ck (x1 &&& 3) 4) (mm_g (mm_ck (x1 &&& 3) 4) ((f_X12_cellAt ((x0 - x0 / 9 * 9) + (mm_tX (x1 &&& 3).toNatClampNeg)) ((x0 / 9) + (mm_tY (x1 &&& 3).toNatClampNeg))).bind fun q28 => some q28))
set_option maxHeartbeats 4000000 in
set_option maxRecDepth 100000 in
theorem c_X12_neighbour (l : Launch) {G : mm_G} {w : va_W} {sz : Nat} {x0 : Int32} {x1 : Int32} {X : Int32} (hf : f_X12_neighbour x0 x1 = some X) : Met l yX12_neighbour (Cond.code yX12_neighbour cX12_neighbour 4 (some .int) :: gAll) ({ frames := 1, cells := 0, slots := 0, locals := 22 }) (va_Pc [.int x0, .int x1] (mm_Pre G w sz)) (mm_Qi G w sz (fun r w' => r = X ∧ w' = w)) 0 0 (va_A w sz) := by
  refine mm_headI [.int x0, .int x1] (by decide +kernel) rfl (Nat.le_of_ble_eq_true rfl) ?_
  intro p e s m args below meth c A Q hsz hC hM hret ls hl
  have hx := hC.1.1
  have hb := hC.1.2.1
  have hl : lv_has ls 4 [(0, .int x0), (1, .int x1)] := hl
  rw [f_X12_neighbour] at hf
  refine lv_iload_n hx hb dX12_neighbour_0 rfl (lv_at hl 0 rfl) ?_
  refine lv_bipush (v := 9) hx hb dX12_neighbour_1 (by decide) ?_
  refine lv_irem hx hb dX12_neighbour_3 (by decide) ?_
  refine va_gets hx hb hC.2.2.1.2.1.1 hM.2.2 hC.1.2.2.2.1 (hC.1.2.2.2.2 _ q2_160) (fun _ h => h) dX12_neighbour_4 ?_
  refine lv_iload_n hx hb dX12_neighbour_7 rfl (lv_at hl 1 rfl) ?_
  refine lv_iconst (v := 3) hx hb dX12_neighbour_8 (by decide) ?_
  refine lv_iand hx hb dX12_neighbour_9 ?_
  obtain ⟨hg10, hf⟩ := mm_gd hf
  refine va_ti hx hb hC.2.2.1.2.1.2 hM.2.2 hg10 rfl dX12_neighbour_10 ?_
  refine lv_iadd hx hb dX12_neighbour_11 ?_
  refine lv_istore_n (lv' := [(2, .int ((x0 - x0 / 9 * 9) + (mm_tX (x1 &&& 3).toNatClampNeg))), (0, .int x0), (1, .int x1)]) hx hb dX12_neighbour_12 rfl hl (by decide) rfl (fun ls hl => ?_)
  refine lv_iload_n hx hb dX12_neighbour_13 rfl (lv_at hl 1 rfl) ?_
  refine lv_bipush (v := 9) hx hb dX12_neighbour_14 (by decide) ?_
  refine lv_idiv hx hb dX12_neighbour_16 (by decide) ?_
  refine va_gets hx hb hC.2.2.1.2.2.1.1 hM.2.2 hC.1.2.2.2.1 (hC.1.2.2.2.2 _ q2_162) (fun _ h => h) dX12_neighbour_17 ?_
  refine lv_iload_n hx hb dX12_neighbour_20 rfl (lv_at hl 2 rfl) ?_
  refine lv_iconst (v := 3) hx hb dX12_neighbour_21 (by decide) ?_
  refine lv_iand hx hb dX12_neighbour_22 ?_
  obtain ⟨hg23, hf⟩ := mm_gd hf
  refine va_ti hx hb hC.2.2.1.2.2.1.2 hM.2.2 hg23 rfl dX12_neighbour_23 ?_
  refine lv_iadd hx hb dX12_neighbour_24 ?_
  refine lv_istore_n (lv' := [(3, .int ((x0 / 9) + (mm_tY (x1 &&& 3).toNatClampNeg))), (2, .int ((x0 - x0 / 9 * 9) + (mm_tX (x1 &&& 3).toNatClampNeg))), (0, .int x0), (1, .int x1)]) hx hb dX12_neighbour_25 rfl hl (by decide) rfl (fun ls hl => ?_)
  refine lv_iload_n hx hb dX12_neighbour_26 rfl (lv_at hl 1 rfl) ?_
  refine lv_iload_n hx hb dX12_neighbour_27 rfl (lv_at hl 0 rfl) ?_
  obtain ⟨q28, hq28, hf⟩ := mm_bd hf
  refine mm_Si (rest := []) hC hM (c_X12_cellAt l hq28) q2_166 q1_1 ykX12_cellAt q2_164 q2_165 ⟨rfl, rfl⟩ ⟨Nat.le_of_ble_eq_true rfl, Nat.le_of_ble_eq_true rfl⟩ rfl hl.1 rfl (Nat.le_of_ble_eq_true rfl) dX12_neighbour_28 ⟨Nat.le_of_ble_eq_true rfl, Nat.le_of_ble_eq_true rfl⟩ (fun r w28 H locs hM hw => ?_)
  obtain ⟨hr, hw⟩ := hw
  rw [hr]
  rw [hw] at hM
  cases hf
  exact hret hM dX12_neighbour_31 rfl ⟨rfl, rfl⟩
def f_X12_letter (x0 : Int32) : Option (Int32) := mm_g (mm_ck (x0 &&& 3) 4) (mm_g (decide (vp_nar .char (mm_tL (x0 &&& 3).toNatClampNeg) = (mm_tL (x0 &&& 3).toNatClampNeg))) (some (mm_tL (x0 &&& 3).toNatClampNeg)))
set_option maxHeartbeats 4000000 in
set_option maxRecDepth 100000 in
theorem c_X12_letter (l : Launch) {G : mm_G} {w : va_W} {sz : Nat} {x0 : Int32} {X : Int32} (hf : f_X12_letter x0 = some X) : Met l yX12_letter (Cond.code yX12_letter cX12_letter 1 (some .char) :: gAll) ({ frames := 0, cells := 0, slots := 0, locals := 0 }) (va_Pc [.int x0] (mm_Pre G w sz)) (mm_Qi G w sz (fun r w' => r = X ∧ w' = w)) 0 0 (va_A w sz) := by
  refine mm_headI [.int x0] (by decide +kernel) rfl (Nat.le_of_ble_eq_true rfl) ?_
  intro p e s m args below meth c A Q hsz hC hM hret ls hl
  have hx := hC.1.1
  have hb := hC.1.2.1
  have hl : lv_has ls 1 [(0, .int x0)] := hl
  rw [f_X12_letter] at hf
  refine va_gets hx hb hC.2.2.1.2.2.2.1.1 hM.2.2 hC.1.2.2.2.1 (hC.1.2.2.2.2 _ q4_215) (fun _ h => h) dX12_letter_0 ?_
  refine lv_iload_n hx hb dX12_letter_3 rfl (lv_at hl 0 rfl) ?_
  refine lv_iconst (v := 3) hx hb dX12_letter_4 (by decide) ?_
  refine lv_iand hx hb dX12_letter_5 ?_
  obtain ⟨hg6, hf⟩ := mm_gd hf
  refine va_tc hx hb hC.2.2.1.2.2.2.1.2 hM.2.2 hg6 rfl dX12_letter_6 ?_
  obtain ⟨hgr, hf⟩ := mm_gb hf
  cases hf
  exact hret hM dX12_letter_7 (mm_narC (of_decide_eq_true hgr)) ⟨rfl, rfl⟩
def f_X12_moveOf_L2 (x0 : Int32) : Nat → (Int32) → Option (Int32)
  | 0, _ => none
  | n + 1, x1 => if 4 ≤ x1 then some (-1) else mm_g (mm_ck x1 4) (if (mm_tL x1.toNatClampNeg) = x0 then some x1 else f_X12_moveOf_L2 x0 n (x1 + 1))
def f_X12_moveOf (K : Nat) (x0 : Int32) : Option (Int32) := f_X12_moveOf_L2 x0 K 0
set_option maxHeartbeats 4000000 in
set_option maxRecDepth 100000 in
theorem c_X12_moveOf (l : Launch) {G : mm_G} {K : Nat} {w : va_W} {sz : Nat} {x0 : Int32} {X : Int32} (hf : f_X12_moveOf K x0 = some X) : Met l yX12_moveOf (Cond.code yX12_moveOf cX12_moveOf 2 (some .int) :: gAll) ({ frames := 0, cells := 0, slots := 0, locals := 0 }) (va_Pc [.int x0] (mm_Pre G w sz)) (mm_Qi G w sz (fun r w' => r = X ∧ w' = w)) 0 0 (va_A w sz) := by
  refine mm_headI [.int x0] (by decide +kernel) rfl (Nat.le_of_ble_eq_true rfl) ?_
  intro p e s m args below meth c A Q hsz hC hM hret ls hl
  have hx := hC.1.1
  have hb := hC.1.2.1
  have hl : lv_has ls 2 [(0, .int x0)] := hl
  rw [f_X12_moveOf] at hf
  refine lv_iconst (v := 0) hx hb dX12_moveOf_0 (by decide) ?_
  refine lv_istore_n (lv' := [(1, .int 0), (0, .int x0)]) hx hb dX12_moveOf_1 rfl hl (by decide) rfl (fun ls hl => ?_)
  have L2 : ∀ (n : Nat) (L2_x1 : Int32), f_X12_moveOf_L2 x0 n L2_x1 = some X → ∀ (H : Heap) (locs : List Loc), mm_S G A s.heap w H locs → ∀ (ls : Array Slot), lv_has ls 2 [(0, .int x0), (1, .int L2_x1)] → W p l e ({ frames := 0, cells := 0, slots := 0, locals := 0 } : Room) s m args below meth c H locs 0 0 Q (F0 m 2 ls []) := by
    intro n
    induction n with
    | zero => intro L2_x1 hf; cases hf
    | succ n ih =>
      intro L2_x1 hf H locs hM ls hl
      rw [f_X12_moveOf_L2] at hf
      refine lv_iload_n hx hb dX12_moveOf_2 rfl (lv_at hl 1 rfl) ?_
      refine lv_iconst (v := 4) hx hb dX12_moveOf_3 (by decide) ?_
      refine lv_icmp_ge (tgt := 24) hx hb dX12_moveOf_4 (by decide) (fun hcd => ?_) (fun hcd => ?_)
      · rw [if_pos hcd] at hf
        refine lv_iconst (v := (-1)) hx hb dX12_moveOf_24 (by decide) ?_
        cases hf
        exact hret hM dX12_moveOf_25 rfl ⟨rfl, rfl⟩
      · rw [if_neg hcd] at hf
        refine va_gets hx hb hC.2.2.1.2.2.2.1.1 hM.2.2 hC.1.2.2.2.1 (hC.1.2.2.2.2 _ q4_215) (fun _ h => h) dX12_moveOf_7 ?_
        refine lv_iload_n hx hb dX12_moveOf_10 rfl (lv_at hl 1 rfl) ?_
        obtain ⟨hg11, hf⟩ := mm_gd hf
        refine va_tc hx hb hC.2.2.1.2.2.2.1.2 hM.2.2 hg11 rfl dX12_moveOf_11 ?_
        refine lv_iload_n hx hb dX12_moveOf_12 rfl (lv_at hl 0 rfl) ?_
        refine lv_icmp_ne (tgt := 18) hx hb dX12_moveOf_13 (by decide) (fun hcd => ?_) (fun hcd => ?_)
        · rw [if_neg hcd] at hf
          refine lv_iinc (v := (L2_x1 + 1)) (lv' := [(1, .int (L2_x1 + 1)), (0, .int x0)]) hx hb dX12_moveOf_18 hl (k := 1) rfl rfl (by decide) rfl (fun ls hl => ?_)
          refine lv_goto (tgt := 2) hx hb dX12_moveOf_21 (by decide) ?_
          exact ih _ hf _ _ hM _ (lv_sub hl [1, 0] rfl)
        · rw [if_pos hcd] at hf
          refine lv_iload_n hx hb dX12_moveOf_16 rfl (lv_at hl 1 rfl) ?_
          cases hf
          exact hret hM dX12_moveOf_17 rfl ⟨rfl, rfl⟩
  exact L2 K _ hf _ _ hM _ (lv_sub hl [1, 0] rfl)
def f_X12_opposite (x0 : Int32) : Option (Int32) := some (x0 ^^^ 1)
set_option maxHeartbeats 4000000 in
set_option maxRecDepth 100000 in
theorem c_X12_opposite (l : Launch) {G : mm_G} {w : va_W} {sz : Nat} {x0 : Int32} {X : Int32} (hf : f_X12_opposite x0 = some X) : Met l yX12_opposite (Cond.code yX12_opposite cX12_opposite 1 (some .int) :: gAll) ({ frames := 0, cells := 0, slots := 0, locals := 0 }) (va_Pc [.int x0] (mm_Pre G w sz)) (mm_Qi G w sz (fun r w' => r = X ∧ w' = w)) 0 0 (va_A w sz) := by
  refine mm_headI [.int x0] (by decide +kernel) rfl (Nat.le_of_ble_eq_true rfl) ?_
  intro p e s m args below meth c A Q hsz hC hM hret ls hl
  have hx := hC.1.1
  have hb := hC.1.2.1
  have hl : lv_has ls 1 [(0, .int x0)] := hl
  rw [f_X12_opposite] at hf
  refine lv_iload_n hx hb dX12_opposite_0 rfl (lv_at hl 0 rfl) ?_
  refine lv_iconst (v := 1) hx hb dX12_opposite_1 (by decide) ?_
  refine lv_ixor hx hb dX12_opposite_2 ?_
  cases hf
  exact hret hM dX12_opposite_3 rfl ⟨rfl, rfl⟩
def f_X12_mirrored (x0 : Int32) : Option (Int32) := if 2 ≤ x0 then (f_X12_opposite x0).bind fun q10 => some q10 else some x0
set_option maxHeartbeats 4000000 in
set_option maxRecDepth 100000 in
theorem c_X12_mirrored (l : Launch) {G : mm_G} {w : va_W} {sz : Nat} {x0 : Int32} {X : Int32} (hf : f_X12_mirrored x0 = some X) : Met l yX12_mirrored (Cond.code yX12_mirrored cX12_mirrored 1 (some .int) :: gAll) ({ frames := 1, cells := 0, slots := 0, locals := 20 }) (va_Pc [.int x0] (mm_Pre G w sz)) (mm_Qi G w sz (fun r w' => r = X ∧ w' = w)) 0 0 (va_A w sz) := by
  refine mm_headI [.int x0] (by decide +kernel) rfl (Nat.le_of_ble_eq_true rfl) ?_
  intro p e s m args below meth c A Q hsz hC hM hret ls hl
  have hx := hC.1.1
  have hb := hC.1.2.1
  have hl : lv_has ls 1 [(0, .int x0)] := hl
  rw [f_X12_mirrored] at hf
  refine lv_iload_n hx hb dX12_mirrored_0 rfl (lv_at hl 0 rfl) ?_
  refine lv_iconst (v := 2) hx hb dX12_mirrored_1 (by decide) ?_
  refine lv_icmp_ge (tgt := 9) hx hb dX12_mirrored_2 (by decide) (fun hcd => ?_) (fun hcd => ?_)
  · rw [if_pos hcd] at hf
    refine lv_iload_n hx hb dX12_mirrored_9 rfl (lv_at hl 0 rfl) ?_
    obtain ⟨q10, hq10, hf⟩ := mm_bd hf
    refine mm_Si (rest := []) hC hM (c_X12_opposite l hq10) q2_228 q1_1 ykX12_opposite q5_6 q2_227 ⟨rfl, rfl⟩ ⟨Nat.le_of_ble_eq_true rfl, Nat.le_of_ble_eq_true rfl⟩ rfl hl.1 rfl (Nat.le_of_ble_eq_true rfl) dX12_mirrored_10 ⟨Nat.le_of_ble_eq_true rfl, Nat.le_of_ble_eq_true rfl⟩ (fun r w10 H locs hM hw => ?_)
    obtain ⟨hr, hw⟩ := hw
    rw [hr]
    rw [hw] at hM
    cases hf
    exact hret hM dX12_mirrored_13 rfl ⟨rfl, rfl⟩
  · rw [if_neg hcd] at hf
    refine lv_iload_n hx hb dX12_mirrored_5 rfl (lv_at hl 0 rfl) ?_
    refine lv_goto (tgt := 13) hx hb dX12_mirrored_6 (by decide) ?_
    cases hf
    exact hret hM dX12_mirrored_13 rfl ⟨rfl, rfl⟩
def f_X12_isPlan (x0 : Int32) : Option (Int32) := if x0 < 0 then some 0 else if 6 ≤ x0 then some 0 else some 1
set_option maxHeartbeats 4000000 in
set_option maxRecDepth 100000 in
theorem c_X12_isPlan (l : Launch) {G : mm_G} {w : va_W} {sz : Nat} {x0 : Int32} {X : Int32} (hf : f_X12_isPlan x0 = some X) : Met l yX12_isPlan (Cond.code yX12_isPlan cX12_isPlan 1 (some .boolean) :: gAll) ({ frames := 0, cells := 0, slots := 0, locals := 0 }) (va_Pc [.int x0] (mm_Pre G w sz)) (mm_Qi G w sz (fun r w' => r = X ∧ w' = w)) 0 0 (va_A w sz) := by
  refine mm_headI [.int x0] (by decide +kernel) rfl (Nat.le_of_ble_eq_true rfl) ?_
  intro p e s m args below meth c A Q hsz hC hM hret ls hl
  have hx := hC.1.1
  have hb := hC.1.2.1
  have hl : lv_has ls 1 [(0, .int x0)] := hl
  rw [f_X12_isPlan] at hf
  refine lv_iload_n hx hb dX12_isPlan_0 rfl (lv_at hl 0 rfl) ?_
  refine lv_if_lt (tgt := 14) hx hb dX12_isPlan_1 (by decide) (fun hcd => ?_) (fun hcd => ?_)
  · rw [if_pos hcd] at hf
    refine lv_iconst (v := 0) hx hb dX12_isPlan_14 (by decide) ?_
    cases hf
    exact hret hM dX12_isPlan_15 rfl ⟨rfl, rfl⟩
  · rw [if_neg hcd] at hf
    refine lv_iload_n hx hb dX12_isPlan_4 rfl (lv_at hl 0 rfl) ?_
    refine lv_bipush (v := 6) hx hb dX12_isPlan_5 (by decide) ?_
    refine lv_icmp_ge (tgt := 14) hx hb dX12_isPlan_7 (by decide) (fun hcd => ?_) (fun hcd => ?_)
    · rw [if_pos hcd] at hf
      refine lv_iconst (v := 0) hx hb dX12_isPlan_14 (by decide) ?_
      cases hf
      exact hret hM dX12_isPlan_15 rfl ⟨rfl, rfl⟩
    · rw [if_neg hcd] at hf
      refine lv_iconst (v := 1) hx hb dX12_isPlan_10 (by decide) ?_
      refine lv_goto (tgt := 15) hx hb dX12_isPlan_11 (by decide) ?_
      cases hf
      exact hret hM dX12_isPlan_15 rfl ⟨rfl, rfl⟩
def f_X12_distance (x0 : Int32) (x1 : Int32) : Option (Int32) := (f_X12_column x0).bind fun q1 => (f_X12_column x1).bind fun q5 => (f_X12_row x0).bind fun q13 => (f_X12_row x1).bind fun q17 => some ((if 0 ≤ (q1 - q5) then (q1 - q5) else 0 - (q1 - q5)) + (if 0 ≤ (q13 - q17) then (q13 - q17) else 0 - (q13 - q17)))
set_option maxHeartbeats 4000000 in
set_option maxRecDepth 100000 in
theorem c_X12_distance (l : Launch) {G : mm_G} {w : va_W} {sz : Nat} {x0 : Int32} {x1 : Int32} {X : Int32} (hf : f_X12_distance x0 x1 = some X) : Met l yX12_distance (Cond.code yX12_distance cX12_distance 2 (some .int) :: gAll) ({ frames := 1, cells := 0, slots := 0, locals := 30 }) (va_Pc [.int x0, .int x1] (mm_Pre G w sz)) (mm_Qi G w sz (fun r w' => r = X ∧ w' = w)) 0 0 (va_A w sz) := by
  refine mm_headI [.int x0, .int x1] (by decide +kernel) rfl (Nat.le_of_ble_eq_true rfl) ?_
  intro p e s m args below meth c A Q hsz hC hM hret ls hl
  have hx := hC.1.1
  have hb := hC.1.2.1
  have hl : lv_has ls 2 [(0, .int x0), (1, .int x1)] := hl
  rw [f_X12_distance] at hf
  refine lv_iload_n hx hb dX12_distance_0 rfl (lv_at hl 0 rfl) ?_
  obtain ⟨q1, hq1, hf⟩ := mm_bd hf
  refine mm_Si (rest := []) hC hM (c_X12_column l hq1) q2_189 q1_1 ykX12_column q3_18 q2_188 ⟨rfl, rfl⟩ ⟨Nat.le_of_ble_eq_true rfl, Nat.le_of_ble_eq_true rfl⟩ rfl hl.1 rfl (Nat.le_of_ble_eq_true rfl) dX12_distance_1 ⟨Nat.le_of_ble_eq_true rfl, Nat.le_of_ble_eq_true rfl⟩ (fun r w1 H locs hM hw => ?_)
  obtain ⟨hr, hw⟩ := hw
  rw [hr]
  rw [hw] at hM
  refine lv_iload_n hx hb dX12_distance_4 rfl (lv_at hl 1 rfl) ?_
  obtain ⟨q5, hq5, hf⟩ := mm_bd hf
  refine mm_Si (rest := [.int q1]) hC hM (c_X12_column l hq5) q2_189 q1_1 ykX12_column q3_18 q2_188 ⟨rfl, rfl⟩ ⟨Nat.le_of_ble_eq_true rfl, Nat.le_of_ble_eq_true rfl⟩ rfl hl.1 rfl (Nat.le_of_ble_eq_true rfl) dX12_distance_5 ⟨Nat.le_of_ble_eq_true rfl, Nat.le_of_ble_eq_true rfl⟩ (fun r w5 H locs hM hw => ?_)
  obtain ⟨hr, hw⟩ := hw
  rw [hr]
  rw [hw] at hM
  refine lv_isub hx hb dX12_distance_8 ?_
  refine va_mabs hx hb (hC.1.2.2.1.trans hl.1.symm) hC.1.2.2.2.1 (hC.1.2.2.2.2 _ q3_19) (hC.1.2.2.2.2 _ q3_20) (hC.1.2.2.2.2 _ q1_24) (hC.1.2.2.2.2 _ q3_21) (Nat.le_of_ble_eq_true rfl) (Nat.le_of_ble_eq_true rfl) (Nat.le_of_ble_eq_true rfl) (Nat.le_of_ble_eq_true rfl) dX12_distance_9 ?_
  refine lv_iload_n hx hb dX12_distance_12 rfl (lv_at hl 0 rfl) ?_
  obtain ⟨q13, hq13, hf⟩ := mm_bd hf
  refine mm_Si (rest := [.int (if 0 ≤ (q1 - q5) then (q1 - q5) else 0 - (q1 - q5))]) hC hM (c_X12_row l hq13) q3_24 q1_1 ykX12_row q3_22 q3_23 ⟨rfl, rfl⟩ ⟨Nat.le_of_ble_eq_true rfl, Nat.le_of_ble_eq_true rfl⟩ rfl hl.1 rfl (Nat.le_of_ble_eq_true rfl) dX12_distance_13 ⟨Nat.le_of_ble_eq_true rfl, Nat.le_of_ble_eq_true rfl⟩ (fun r w13 H locs hM hw => ?_)
  obtain ⟨hr, hw⟩ := hw
  rw [hr]
  rw [hw] at hM
  refine lv_iload_n hx hb dX12_distance_16 rfl (lv_at hl 1 rfl) ?_
  obtain ⟨q17, hq17, hf⟩ := mm_bd hf
  refine mm_Si (rest := [.int q13, .int (if 0 ≤ (q1 - q5) then (q1 - q5) else 0 - (q1 - q5))]) hC hM (c_X12_row l hq17) q3_24 q1_1 ykX12_row q3_22 q3_23 ⟨rfl, rfl⟩ ⟨Nat.le_of_ble_eq_true rfl, Nat.le_of_ble_eq_true rfl⟩ rfl hl.1 rfl (Nat.le_of_ble_eq_true rfl) dX12_distance_17 ⟨Nat.le_of_ble_eq_true rfl, Nat.le_of_ble_eq_true rfl⟩ (fun r w17 H locs hM hw => ?_)
  obtain ⟨hr, hw⟩ := hw
  rw [hr]
  rw [hw] at hM
  refine lv_isub hx hb dX12_distance_20 ?_
  refine va_mabs hx hb (hC.1.2.2.1.trans hl.1.symm) hC.1.2.2.2.1 (hC.1.2.2.2.2 _ q3_19) (hC.1.2.2.2.2 _ q3_20) (hC.1.2.2.2.2 _ q1_24) (hC.1.2.2.2.2 _ q3_21) (Nat.le_of_ble_eq_true rfl) (Nat.le_of_ble_eq_true rfl) (Nat.le_of_ble_eq_true rfl) (Nat.le_of_ble_eq_true rfl) dX12_distance_21 ?_
  refine lv_iadd hx hb dX12_distance_24 ?_
  cases hf
  exact hret hM dX12_distance_25 rfl ⟨rfl, rfl⟩
def f_X9_copyFrom (states : Nat → Int32) (p1_states : Nat → Int32) (p1_count : Int32) (p1_broken : Int32) : Option ((Nat → Int32) × Int32 × Int32) := some ((va_cpy p1_states states 0 0 81), p1_count, p1_broken)
set_option maxHeartbeats 4000000 in
set_option maxRecDepth 100000 in
theorem c_X9_copyFrom (l : Launch) {G : mm_G} {w : va_W} {sz : Nat} {b : Nat} {b1 : Nat} {states : Nat → Int32} {count : Int32} {broken : Int32} {p1_states : Nat → Int32} {p1_count : Int32} {p1_broken : Int32} {X : (Nat → Int32) × Int32 × Int32} (hf : f_X9_copyFrom states p1_states p1_count p1_broken = some X) (hp_this : At9 G w b states count broken) (hp_p1 : At9 G w b1 p1_states p1_count p1_broken) (hd0 : b + 2 ≤ b1 ∨ b1 + 2 ≤ b) : Met l yX9_copyFrom (Cond.code yX9_copyFrom cX9_copyFrom 2 none :: gAll) ({ frames := 1, cells := 0, slots := 0, locals := 60 }) (va_Pc [.ref b, .ref b1] (mm_Pre G w sz)) (mm_Qv G w sz (fun w' => At9 G w' b X.1 X.2.1 X.2.2 ∧ mm_fr w w' b (b + 2))) 0 0 (va_A w sz) := by
  refine mm_headV [.ref b, .ref b1] (by decide +kernel) rfl (Nat.le_of_ble_eq_true rfl) ?_
  intro p e s m args below meth c A Q hsz hC hM hret hnm ls hl
  have hx := hC.1.1
  have hb := hC.1.2.1
  have hl : lv_has ls 2 [(0, .ref b), (1, .ref b1)] := hl
  have hF : mm_fr w w b (b + 2) := mm_fr.rf
  rw [f_X9_copyFrom] at hf
  refine lv_aload_n hx hb dX9_copyFrom_0 rfl (lv_at hl 1 rfl) ?_
  refine mm_get hC hM (k := 0) hp_p1.1 rfl inAX9 (by decide) q1_53 rfl dX9_copyFrom_1 ?_
  refine lv_iconst (v := 0) hx hb dX9_copyFrom_4 (by decide) ?_
  refine lv_aload_n hx hb dX9_copyFrom_5 rfl (lv_at hl 0 rfl) ?_
  refine mm_get hC hM (k := 0) hp_this.1 rfl inAX9 (by decide) q1_53 rfl dX9_copyFrom_6 ?_
  refine lv_iconst (v := 0) hx hb dX9_copyFrom_9 (by decide) ?_
  refine lv_bipush (v := 81) hx hb dX9_copyFrom_10 (by decide) ?_
  refine mm_copy (S1 := 0) (D1 := 0) (N1 := 81) hC hM (hp_p1.2) (hp_this.2) (by decide) (by decide) (by decide) (by decide) (by decide) (by decide) (by decide) (by decide) (hC.1.2.2.1.trans hl.1.symm) q3_72 q2_235 q2_234 q1_19 (Nat.le_of_ble_eq_true rfl) (Nat.le_of_ble_eq_true rfl) dX9_copyFrom_12 (fun w12 H locs hM hm => ?_)
  have hp_this : At9 G w12 b (va_cpy p1_states states 0 0 81) count broken := ⟨hm.keep (hp_this.1) (by omega), hm.1⟩
  have hp_p1 := hp_p1.up hm (by omega)
  have hF := hF.tr (hm.fr (by omega) (by omega))
  refine lv_aload_n hx hb dX9_copyFrom_15 rfl (lv_at hl 0 rfl) ?_
  refine lv_aload_n hx hb dX9_copyFrom_16 rfl (lv_at hl 1 rfl) ?_
  refine mm_get hC hM (k := 1) hp_p1.1 rfl inAX9 (by decide) q1_54 rfl dX9_copyFrom_17 ?_
  refine mm_put hC hM (k := 1) tyX9 hp_this.1 rfl inAX9 tyX9_ok nmX9 (by decide) q1_54 rfl rfl rfl rfl (Nat.le_of_ble_eq_true rfl) dX9_copyFrom_20 (fun w20 H locs hM hm => ?_)
  have hp_this : At9 G w20 b (va_cpy p1_states states 0 0 81) p1_count broken := ⟨hm.1, hm.keep (hp_this.2) (by omega)⟩
  have hp_p1 := hp_p1.up hm (by omega)
  have hF := hF.tr (hm.fr (by omega) (by omega))
  refine lv_aload_n hx hb dX9_copyFrom_23 rfl (lv_at hl 0 rfl) ?_
  refine lv_aload_n hx hb dX9_copyFrom_24 rfl (lv_at hl 1 rfl) ?_
  refine mm_get hC hM (k := 2) hp_p1.1 rfl inAX9 (by decide) q1_57 rfl dX9_copyFrom_25 ?_
  refine mm_put hC hM (k := 2) tyX9 hp_this.1 rfl inAX9 tyX9_ok nmX9 (by decide) q1_57 rfl rfl rfl rfl (Nat.le_of_ble_eq_true rfl) dX9_copyFrom_28 (fun w28 H locs hM hm => ?_)
  have hp_this : At9 G w28 b (va_cpy p1_states states 0 0 81) p1_count p1_broken := ⟨hm.1, hm.keep (hp_this.2) (by omega)⟩
  have hp_p1 := hp_p1.up hm (by omega)
  have hF := hF.tr (hm.fr (by omega) (by omega))
  cases hf
  exact hret hM dX9_copyFrom_31 ⟨hp_this, hF⟩
def f_X9_stateOf (states : Nat → Int32) (x1 : Int32) : Option (Int32) := mm_g (mm_ck x1 81) (some (states x1.toNatClampNeg))
set_option maxHeartbeats 4000000 in
set_option maxRecDepth 100000 in
theorem c_X9_stateOf (l : Launch) {G : mm_G} {w : va_W} {sz : Nat} {b : Nat} {states : Nat → Int32} {count : Int32} {broken : Int32} {x1 : Int32} {X : Int32} (hf : f_X9_stateOf states x1 = some X) (hp_this : At9 G w b states count broken) : Met l yX9_stateOf (Cond.code yX9_stateOf cX9_stateOf 2 (some .int) :: gAll) ({ frames := 0, cells := 0, slots := 0, locals := 0 }) (va_Pc [.ref b, .int x1] (mm_Pre G w sz)) (mm_Qi G w sz (fun r w' => r = X ∧ w' = w)) 0 0 (va_A w sz) := by
  refine mm_headI [.ref b, .int x1] (by decide +kernel) rfl (Nat.le_of_ble_eq_true rfl) ?_
  intro p e s m args below meth c A Q hsz hC hM hret ls hl
  have hx := hC.1.1
  have hb := hC.1.2.1
  have hl : lv_has ls 2 [(0, .ref b), (1, .int x1)] := hl
  rw [f_X9_stateOf] at hf
  refine lv_aload_n hx hb dX9_stateOf_0 rfl (lv_at hl 0 rfl) ?_
  refine mm_get hC hM (k := 0) hp_this.1 rfl inAX9 (by decide) q1_53 rfl dX9_stateOf_1 ?_
  refine lv_iload_n hx hb dX9_stateOf_4 rfl (lv_at hl 1 rfl) ?_
  obtain ⟨hg5, hf⟩ := mm_gd hf
  refine mm_iald hC hM (hp_this.2) hg5 dX9_stateOf_5 ?_
  cases hf
  exact hret hM dX9_stateOf_6 rfl ⟨rfl, rfl⟩
def f_X9_standingIn (states : Nat → Int32) (x1 : Int32) : Option (Int32) := mm_g (mm_ck x1 81) (if (states x1.toNatClampNeg) = 1 then some 1 else some 0)
set_option maxHeartbeats 4000000 in
set_option maxRecDepth 100000 in
theorem c_X9_standingIn (l : Launch) {G : mm_G} {w : va_W} {sz : Nat} {b : Nat} {states : Nat → Int32} {count : Int32} {broken : Int32} {x1 : Int32} {X : Int32} (hf : f_X9_standingIn states x1 = some X) (hp_this : At9 G w b states count broken) : Met l yX9_standingIn (Cond.code yX9_standingIn cX9_standingIn 2 (some .int) :: gAll) ({ frames := 0, cells := 0, slots := 0, locals := 0 }) (va_Pc [.ref b, .int x1] (mm_Pre G w sz)) (mm_Qi G w sz (fun r w' => r = X ∧ w' = w)) 0 0 (va_A w sz) := by
  refine mm_headI [.ref b, .int x1] (by decide +kernel) rfl (Nat.le_of_ble_eq_true rfl) ?_
  intro p e s m args below meth c A Q hsz hC hM hret ls hl
  have hx := hC.1.1
  have hb := hC.1.2.1
  have hl : lv_has ls 2 [(0, .ref b), (1, .int x1)] := hl
  rw [f_X9_standingIn] at hf
  refine lv_aload_n hx hb dX9_standingIn_0 rfl (lv_at hl 0 rfl) ?_
  refine mm_get hC hM (k := 0) hp_this.1 rfl inAX9 (by decide) q1_53 rfl dX9_standingIn_1 ?_
  refine lv_iload_n hx hb dX9_standingIn_4 rfl (lv_at hl 1 rfl) ?_
  obtain ⟨hg5, hf⟩ := mm_gd hf
  refine mm_iald hC hM (hp_this.2) hg5 dX9_standingIn_5 ?_
  refine lv_iconst (v := 1) hx hb dX9_standingIn_6 (by decide) ?_
  refine lv_icmp_ne (tgt := 14) hx hb dX9_standingIn_7 (by decide) (fun hcd => ?_) (fun hcd => ?_)
  · rw [if_neg hcd] at hf
    refine lv_iconst (v := 0) hx hb dX9_standingIn_14 (by decide) ?_
    cases hf
    exact hret hM dX9_standingIn_15 rfl ⟨rfl, rfl⟩
  · rw [if_pos hcd] at hf
    refine lv_iconst (v := 1) hx hb dX9_standingIn_10 (by decide) ?_
    refine lv_goto (tgt := 15) hx hb dX9_standingIn_11 (by decide) ?_
    cases hf
    exact hret hM dX9_standingIn_15 rfl ⟨rfl, rfl⟩
def f_X9_standingInPair (states : Nat → Int32) (x1 : Int32) : Option (Int32) := (f_X12_image x1).bind fun q1 => if q1 = x1 then (f_X9_standingIn states x1).bind fun q12 => some q12 else (f_X9_standingIn states x1).bind fun q20 => (f_X9_standingIn states q1).bind fun q25 => some (q20 + q25)
set_option maxHeartbeats 4000000 in
set_option maxRecDepth 100000 in
theorem c_X9_standingInPair (l : Launch) {G : mm_G} {w : va_W} {sz : Nat} {b : Nat} {states : Nat → Int32} {count : Int32} {broken : Int32} {x1 : Int32} {X : Int32} (hf : f_X9_standingInPair states x1 = some X) (hp_this : At9 G w b states count broken) : Met l yX9_standingInPair (Cond.code yX9_standingInPair cX9_standingInPair 3 (some .int) :: gAll) ({ frames := 1, cells := 0, slots := 0, locals := 21 }) (va_Pc [.ref b, .int x1] (mm_Pre G w sz)) (mm_Qi G w sz (fun r w' => r = X ∧ w' = w)) 0 0 (va_A w sz) := by
  refine mm_headI [.ref b, .int x1] (by decide +kernel) rfl (Nat.le_of_ble_eq_true rfl) ?_
  intro p e s m args below meth c A Q hsz hC hM hret ls hl
  have hx := hC.1.1
  have hb := hC.1.2.1
  have hl : lv_has ls 3 [(0, .ref b), (1, .int x1)] := hl
  rw [f_X9_standingInPair] at hf
  refine lv_iload_n hx hb dX9_standingInPair_0 rfl (lv_at hl 1 rfl) ?_
  obtain ⟨q1, hq1, hf⟩ := mm_bd hf
  refine mm_SNi (rest := []) hC hM (c_X12_image l hq1) q2_75 q1_1 ykX12_image q2_73 q2_74 ⟨rfl, rfl⟩ ⟨Nat.le_of_ble_eq_true rfl, Nat.le_of_ble_eq_true rfl⟩ rfl hl.1 rfl (Nat.le_of_ble_eq_true rfl) dX9_standingInPair_1 ⟨Nat.le_of_ble_eq_true rfl, Nat.le_of_ble_eq_true rfl⟩ (fun r w1 H locs hM hw => ?_)
  obtain ⟨hr, hw⟩ := hw
  rw [hr]
  rw [hw] at hM
  refine lv_istore_n (lv' := [(2, .int q1), (0, .ref b), (1, .int x1)]) hx hb dX9_standingInPair_4 rfl hl (by decide) rfl (fun ls hl => ?_)
  refine lv_iload_n hx hb dX9_standingInPair_5 rfl (lv_at hl 0 rfl) ?_
  refine lv_iload_n hx hb dX9_standingInPair_6 rfl (lv_at hl 2 rfl) ?_
  refine lv_icmp_ne (tgt := 18) hx hb dX9_standingInPair_7 (by decide) (fun hcd => ?_) (fun hcd => ?_)
  · rw [if_neg hcd] at hf
    refine lv_aload_n hx hb dX9_standingInPair_18 rfl (lv_at hl 1 rfl) ?_
    refine lv_iload_n hx hb dX9_standingInPair_19 rfl (lv_at hl 2 rfl) ?_
    obtain ⟨q20, hq20, hf⟩ := mm_bd hf
    refine mm_Vi (rest := []) hC hM (c_X9_standingIn l hq20 hp_this) q2_72 q1_3 ykX9_standingIn q2_69 q2_70 q2_71 hp_this.1 rfl ⟨rfl, rfl⟩ ⟨Nat.le_of_ble_eq_true rfl, Nat.le_of_ble_eq_true rfl⟩ rfl hl.1 rfl (Nat.le_of_ble_eq_true rfl) dX9_standingInPair_20 ⟨Nat.le_of_ble_eq_true rfl, Nat.le_of_ble_eq_true rfl⟩ (fun r w20 H locs hM hw => ?_)
    obtain ⟨hr, hw⟩ := hw
    rw [hr]
    rw [hw] at hM
    refine lv_aload_n hx hb dX9_standingInPair_23 rfl (lv_at hl 1 rfl) ?_
    refine lv_iload_n hx hb dX9_standingInPair_24 rfl (lv_at hl 0 rfl) ?_
    obtain ⟨q25, hq25, hf⟩ := mm_bd hf
    refine mm_Vi (rest := [.int q20]) hC hM (c_X9_standingIn l hq25 hp_this) q2_72 q1_3 ykX9_standingIn q2_69 q2_70 q2_71 hp_this.1 rfl ⟨rfl, rfl⟩ ⟨Nat.le_of_ble_eq_true rfl, Nat.le_of_ble_eq_true rfl⟩ rfl hl.1 rfl (Nat.le_of_ble_eq_true rfl) dX9_standingInPair_25 ⟨Nat.le_of_ble_eq_true rfl, Nat.le_of_ble_eq_true rfl⟩ (fun r w25 H locs hM hw => ?_)
    obtain ⟨hr, hw⟩ := hw
    rw [hr]
    rw [hw] at hM
    refine lv_iadd hx hb dX9_standingInPair_28 ?_
    cases hf
    exact hret hM dX9_standingInPair_29 rfl ⟨rfl, rfl⟩
  · rw [if_pos hcd] at hf
    refine lv_aload_n hx hb dX9_standingInPair_10 rfl (lv_at hl 1 rfl) ?_
    refine lv_iload_n hx hb dX9_standingInPair_11 rfl (lv_at hl 2 rfl) ?_
    obtain ⟨q12, hq12, hf⟩ := mm_bd hf
    refine mm_Vi (rest := []) hC hM (c_X9_standingIn l hq12 hp_this) q2_72 q1_3 ykX9_standingIn q2_69 q2_70 q2_71 hp_this.1 rfl ⟨rfl, rfl⟩ ⟨Nat.le_of_ble_eq_true rfl, Nat.le_of_ble_eq_true rfl⟩ rfl hl.1 rfl (Nat.le_of_ble_eq_true rfl) dX9_standingInPair_12 ⟨Nat.le_of_ble_eq_true rfl, Nat.le_of_ble_eq_true rfl⟩ (fun r w12 H locs hM hw => ?_)
    obtain ⟨hr, hw⟩ := hw
    rw [hr]
    rw [hw] at hM
    refine lv_goto (tgt := 29) hx hb dX9_standingInPair_15 (by decide) ?_
    cases hf
    exact hret hM dX9_standingInPair_29 rfl ⟨rfl, rfl⟩
def f_X9_isOpen (states : Nat → Int32) (x1 : Int32) : Option (Int32) := mm_g (mm_ck x1 81) (if (states x1.toNatClampNeg) = 1 then some 0 else (f_X12_image x1).bind fun q15 => mm_g (mm_ck q15 81) (if (states q15.toNatClampNeg) = 1 then some 0 else some 1))
set_option maxHeartbeats 4000000 in
set_option maxRecDepth 100000 in
theorem c_X9_isOpen (l : Launch) {G : mm_G} {w : va_W} {sz : Nat} {b : Nat} {states : Nat → Int32} {count : Int32} {broken : Int32} {x1 : Int32} {X : Int32} (hf : f_X9_isOpen states x1 = some X) (hp_this : At9 G w b states count broken) : Met l yX9_isOpen (Cond.code yX9_isOpen cX9_isOpen 2 (some .boolean) :: gAll) ({ frames := 1, cells := 0, slots := 0, locals := 20 }) (va_Pc [.ref b, .int x1] (mm_Pre G w sz)) (mm_Qi G w sz (fun r w' => r = X ∧ w' = w)) 0 0 (va_A w sz) := by
  refine mm_headI [.ref b, .int x1] (by decide +kernel) rfl (Nat.le_of_ble_eq_true rfl) ?_
  intro p e s m args below meth c A Q hsz hC hM hret ls hl
  have hx := hC.1.1
  have hb := hC.1.2.1
  have hl : lv_has ls 2 [(0, .ref b), (1, .int x1)] := hl
  rw [f_X9_isOpen] at hf
  refine lv_aload_n hx hb dX9_isOpen_0 rfl (lv_at hl 0 rfl) ?_
  refine mm_get hC hM (k := 0) hp_this.1 rfl inAX9 (by decide) q1_53 rfl dX9_isOpen_1 ?_
  refine lv_iload_n hx hb dX9_isOpen_4 rfl (lv_at hl 1 rfl) ?_
  obtain ⟨hg5, hf⟩ := mm_gd hf
  refine mm_iald hC hM (hp_this.2) hg5 dX9_isOpen_5 ?_
  refine lv_iconst (v := 1) hx hb dX9_isOpen_6 (by decide) ?_
  refine lv_icmp_eq (tgt := 27) hx hb dX9_isOpen_7 (by decide) (fun hcd => ?_) (fun hcd => ?_)
  · rw [if_pos hcd] at hf
    refine lv_iconst (v := 0) hx hb dX9_isOpen_27 (by decide) ?_
    cases hf
    exact hret hM dX9_isOpen_28 rfl ⟨rfl, rfl⟩
  · rw [if_neg hcd] at hf
    refine lv_aload_n hx hb dX9_isOpen_10 rfl (lv_at hl 0 rfl) ?_
    refine mm_get hC hM (k := 0) hp_this.1 rfl inAX9 (by decide) q1_53 rfl dX9_isOpen_11 ?_
    refine lv_iload_n hx hb dX9_isOpen_14 rfl (lv_at hl 1 rfl) ?_
    obtain ⟨q15, hq15, hf⟩ := mm_bd hf
    refine mm_SNi (rest := [.ref (b + 1)]) hC hM (c_X12_image l hq15) q2_75 q1_1 ykX12_image q2_73 q2_74 ⟨rfl, rfl⟩ ⟨Nat.le_of_ble_eq_true rfl, Nat.le_of_ble_eq_true rfl⟩ rfl hl.1 rfl (Nat.le_of_ble_eq_true rfl) dX9_isOpen_15 ⟨Nat.le_of_ble_eq_true rfl, Nat.le_of_ble_eq_true rfl⟩ (fun r w15 H locs hM hw => ?_)
    obtain ⟨hr, hw⟩ := hw
    rw [hr]
    rw [hw] at hM
    obtain ⟨hg18, hf⟩ := mm_gd hf
    refine mm_iald hC hM (hp_this.2) hg18 dX9_isOpen_18 ?_
    refine lv_iconst (v := 1) hx hb dX9_isOpen_19 (by decide) ?_
    refine lv_icmp_eq (tgt := 27) hx hb dX9_isOpen_20 (by decide) (fun hcd => ?_) (fun hcd => ?_)
    · rw [if_pos hcd] at hf
      refine lv_iconst (v := 0) hx hb dX9_isOpen_27 (by decide) ?_
      cases hf
      exact hret hM dX9_isOpen_28 rfl ⟨rfl, rfl⟩
    · rw [if_neg hcd] at hf
      refine lv_iconst (v := 1) hx hb dX9_isOpen_23 (by decide) ?_
      refine lv_goto (tgt := 28) hx hb dX9_isOpen_24 (by decide) ?_
      cases hf
      exact hret hM dX9_isOpen_28 rfl ⟨rfl, rfl⟩
def f_X9_openCells_L4 (states : Nat → Int32) : Nat → (Int32) → (Int32) → Option (Int32)
  | 0, _, _ => none
  | n + 1, x1, x2 => if 81 ≤ x2 then some x1 else (f_X9_isOpen states x2).bind fun q13 => if q13 = 0 then f_X9_openCells_L4 states n (x1 + 0) (x2 + 1) else f_X9_openCells_L4 states n (x1 + 1) (x2 + 1)
def f_X9_openCells (K : Nat) (states : Nat → Int32) : Option (Int32) := (f_X9_openCells_L4 states K 0 0).bind fun q4 => some q4
set_option maxHeartbeats 4000000 in
set_option maxRecDepth 100000 in
theorem c_X9_openCells (l : Launch) {G : mm_G} {K : Nat} {w : va_W} {sz : Nat} {b : Nat} {states : Nat → Int32} {count : Int32} {broken : Int32} {X : Int32} (hf : f_X9_openCells K states = some X) (hp_this : At9 G w b states count broken) : Met l yX9_openCells (Cond.code yX9_openCells cX9_openCells 3 (some .int) :: gAll) ({ frames := 2, cells := 0, slots := 0, locals := 41 }) (va_Pc [.ref b] (mm_Pre G w sz)) (mm_Qi G w sz (fun r w' => r = X ∧ w' = w)) 0 0 (va_A w sz) := by
  refine mm_headI [.ref b] (by decide +kernel) rfl (Nat.le_of_ble_eq_true rfl) ?_
  intro p e s m args below meth c A Q hsz hC hM hret ls hl
  have hx := hC.1.1
  have hb := hC.1.2.1
  have hl : lv_has ls 3 [(0, .ref b)] := hl
  rw [f_X9_openCells] at hf
  refine lv_iconst (v := 0) hx hb dX9_openCells_0 (by decide) ?_
  refine lv_istore_n (lv' := [(1, .int 0), (0, .ref b)]) hx hb dX9_openCells_1 rfl hl (by decide) rfl (fun ls hl => ?_)
  refine lv_iconst (v := 0) hx hb dX9_openCells_2 (by decide) ?_
  refine lv_istore_n (lv' := [(2, .int 0), (1, .int 0), (0, .ref b)]) hx hb dX9_openCells_3 rfl hl (by decide) rfl (fun ls hl => ?_)
  have L4 : ∀ (n : Nat) (L4_x1 : Int32) (L4_x2 : Int32) (X : Int32), f_X9_openCells_L4 states n L4_x1 L4_x2 = some X → ∀ (H : Heap) (locs : List Loc), mm_S G A s.heap w H locs → ∀ (ls : Array Slot), lv_has ls 3 [(0, .ref b), (1, .int L4_x1), (2, .int L4_x2)] → (∀ (H : Heap) (locs : List Loc), mm_S G A s.heap w H locs → ∀ (ls : Array Slot), lv_has ls 3 [(1, .int X)] → W p l e ({ frames := 2, cells := 0, slots := 0, locals := 41 } : Room) s m args below meth c H locs 0 0 Q (F0 m 32 ls [])) → W p l e ({ frames := 2, cells := 0, slots := 0, locals := 41 } : Room) s m args below meth c H locs 0 0 Q (F0 m 4 ls []) := by
    intro n
    induction n with
    | zero => intro L4_x1 L4_x2 X hf; cases hf
    | succ n ih =>
      intro L4_x1 L4_x2 X hf H locs hM ls hl hk
      rw [f_X9_openCells_L4] at hf
      refine lv_iload_n hx hb dX9_openCells_4 rfl (lv_at hl 2 rfl) ?_
      refine lv_bipush (v := 81) hx hb dX9_openCells_5 (by decide) ?_
      refine lv_icmp_ge (tgt := 32) hx hb dX9_openCells_7 (by decide) (fun hcd => ?_) (fun hcd => ?_)
      · rw [if_pos hcd] at hf
        cases hf
        exact hk _ _ hM _ (lv_sub hl [1] rfl)
      · rw [if_neg hcd] at hf
        refine lv_iload_n hx hb dX9_openCells_10 rfl (lv_at hl 1 rfl) ?_
        refine lv_aload_n hx hb dX9_openCells_11 rfl (lv_at hl 0 rfl) ?_
        refine lv_iload_n hx hb dX9_openCells_12 rfl (lv_at hl 2 rfl) ?_
        obtain ⟨q13, hq13, hf⟩ := mm_bd hf
        refine mm_Vi (rest := [.int L4_x1]) hC hM (c_X9_isOpen l hq13 hp_this) q2_129 q1_3 ykX9_isOpen q2_126 q2_127 q2_128 hp_this.1 rfl ⟨rfl, rfl⟩ ⟨Nat.le_of_ble_eq_true rfl, Nat.le_of_ble_eq_true rfl⟩ rfl hl.1 rfl (Nat.le_of_ble_eq_true rfl) dX9_openCells_13 ⟨Nat.le_of_ble_eq_true rfl, Nat.le_of_ble_eq_true rfl⟩ (fun r w13 H locs hM hw => ?_)
        obtain ⟨hr, hw⟩ := hw
        rw [hr]
        rw [hw] at hM
        refine lv_if_eq (tgt := 23) hx hb dX9_openCells_16 (by decide) (fun hcd => ?_) (fun hcd => ?_)
        · rw [if_pos hcd] at hf
          refine lv_iconst (v := 0) hx hb dX9_openCells_23 (by decide) ?_
          refine lv_iadd hx hb dX9_openCells_24 ?_
          refine lv_istore_n (lv' := [(1, .int (L4_x1 + 0)), (0, .ref b), (2, .int L4_x2)]) hx hb dX9_openCells_25 rfl hl (by decide) rfl (fun ls hl => ?_)
          refine lv_iinc (v := (L4_x2 + 1)) (lv' := [(2, .int (L4_x2 + 1)), (1, .int (L4_x1 + 0)), (0, .ref b)]) hx hb dX9_openCells_26 hl (k := 2) rfl rfl (by decide) rfl (fun ls hl => ?_)
          refine lv_goto (tgt := 4) hx hb dX9_openCells_29 (by decide) ?_
          exact ih _ _ _ hf _ _ hM _ (lv_sub hl [2, 1, 0] rfl) hk
        · rw [if_neg hcd] at hf
          refine lv_iconst (v := 1) hx hb dX9_openCells_19 (by decide) ?_
          refine lv_goto (tgt := 24) hx hb dX9_openCells_20 (by decide) ?_
          refine lv_iadd hx hb dX9_openCells_24 ?_
          refine lv_istore_n (lv' := [(1, .int (L4_x1 + 1)), (0, .ref b), (2, .int L4_x2)]) hx hb dX9_openCells_25 rfl hl (by decide) rfl (fun ls hl => ?_)
          refine lv_iinc (v := (L4_x2 + 1)) (lv' := [(2, .int (L4_x2 + 1)), (1, .int (L4_x1 + 1)), (0, .ref b)]) hx hb dX9_openCells_26 hl (k := 2) rfl rfl (by decide) rfl (fun ls hl => ?_)
          refine lv_goto (tgt := 4) hx hb dX9_openCells_29 (by decide) ?_
          exact ih _ _ _ hf _ _ hM _ (lv_sub hl [2, 1, 0] rfl) hk
  obtain ⟨q4, hq4, hf⟩ := mm_bd hf
  refine L4 K _ _ _ hq4 _ _ hM _ (lv_sub hl [2, 1, 0] rfl) (fun H locs hM ls hl => ?_)
  refine lv_iload_n hx hb dX9_openCells_32 rfl (lv_at hl 0 rfl) ?_
  cases hf
  exact hret hM dX9_openCells_33 rfl ⟨rfl, rfl⟩
def f_X9_oddByCells_L4 (states : Nat → Int32) : Nat → (Int32) → (Int32) → Option (Int32)
  | 0, _, _ => none
  | n + 1, x1, x2 => if 81 ≤ x2 then some x1 else (f_X9_standingIn states x2).bind fun q13 => if q13 = 1 then (f_X12_image x2).bind fun q22 => (f_X9_standingIn states q22).bind fun q25 => if q25 = 0 then f_X9_oddByCells_L4 states n (x1 + 1) (x2 + 1) else f_X9_oddByCells_L4 states n (x1 + 0) (x2 + 1) else f_X9_oddByCells_L4 states n (x1 + 0) (x2 + 1)
def f_X9_oddByCells (K : Nat) (states : Nat → Int32) : Option (Int32) := (f_X9_oddByCells_L4 states K 0 0).bind fun q4 => some q4
set_option maxHeartbeats 4000000 in
set_option maxRecDepth 100000 in
theorem c_X9_oddByCells (l : Launch) {G : mm_G} {K : Nat} {w : va_W} {sz : Nat} {b : Nat} {states : Nat → Int32} {count : Int32} {broken : Int32} {X : Int32} (hf : f_X9_oddByCells K states = some X) (hp_this : At9 G w b states count broken) : Met l yX9_oddByCells (Cond.code yX9_oddByCells cX9_oddByCells 3 (some .int) :: gAll) ({ frames := 1, cells := 0, slots := 0, locals := 21 }) (va_Pc [.ref b] (mm_Pre G w sz)) (mm_Qi G w sz (fun r w' => r = X ∧ w' = w)) 0 0 (va_A w sz) := by
  refine mm_headI [.ref b] (by decide +kernel) rfl (Nat.le_of_ble_eq_true rfl) ?_
  intro p e s m args below meth c A Q hsz hC hM hret ls hl
  have hx := hC.1.1
  have hb := hC.1.2.1
  have hl : lv_has ls 3 [(0, .ref b)] := hl
  rw [f_X9_oddByCells] at hf
  refine lv_iconst (v := 0) hx hb dX9_oddByCells_0 (by decide) ?_
  refine lv_istore_n (lv' := [(1, .int 0), (0, .ref b)]) hx hb dX9_oddByCells_1 rfl hl (by decide) rfl (fun ls hl => ?_)
  refine lv_iconst (v := 0) hx hb dX9_oddByCells_2 (by decide) ?_
  refine lv_istore_n (lv' := [(2, .int 0), (1, .int 0), (0, .ref b)]) hx hb dX9_oddByCells_3 rfl hl (by decide) rfl (fun ls hl => ?_)
  have L4 : ∀ (n : Nat) (L4_x1 : Int32) (L4_x2 : Int32) (X : Int32), f_X9_oddByCells_L4 states n L4_x1 L4_x2 = some X → ∀ (H : Heap) (locs : List Loc), mm_S G A s.heap w H locs → ∀ (ls : Array Slot), lv_has ls 3 [(0, .ref b), (1, .int L4_x1), (2, .int L4_x2)] → (∀ (H : Heap) (locs : List Loc), mm_S G A s.heap w H locs → ∀ (ls : Array Slot), lv_has ls 3 [(1, .int X)] → W p l e ({ frames := 1, cells := 0, slots := 0, locals := 21 } : Room) s m args below meth c H locs 0 0 Q (F0 m 44 ls [])) → W p l e ({ frames := 1, cells := 0, slots := 0, locals := 21 } : Room) s m args below meth c H locs 0 0 Q (F0 m 4 ls []) := by
    intro n
    induction n with
    | zero => intro L4_x1 L4_x2 X hf; cases hf
    | succ n ih =>
      intro L4_x1 L4_x2 X hf H locs hM ls hl hk
      rw [f_X9_oddByCells_L4] at hf
      refine lv_iload_n hx hb dX9_oddByCells_4 rfl (lv_at hl 2 rfl) ?_
      refine lv_bipush (v := 81) hx hb dX9_oddByCells_5 (by decide) ?_
      refine lv_icmp_ge (tgt := 44) hx hb dX9_oddByCells_7 (by decide) (fun hcd => ?_) (fun hcd => ?_)
      · rw [if_pos hcd] at hf
        cases hf
        exact hk _ _ hM _ (lv_sub hl [1] rfl)
      · rw [if_neg hcd] at hf
        refine lv_iload_n hx hb dX9_oddByCells_10 rfl (lv_at hl 1 rfl) ?_
        refine lv_aload_n hx hb dX9_oddByCells_11 rfl (lv_at hl 0 rfl) ?_
        refine lv_iload_n hx hb dX9_oddByCells_12 rfl (lv_at hl 2 rfl) ?_
        obtain ⟨q13, hq13, hf⟩ := mm_bd hf
        refine mm_Vi (rest := [.int L4_x1]) hC hM (c_X9_standingIn l hq13 hp_this) q2_72 q1_3 ykX9_standingIn q2_69 q2_70 q2_71 hp_this.1 rfl ⟨rfl, rfl⟩ ⟨Nat.le_of_ble_eq_true rfl, Nat.le_of_ble_eq_true rfl⟩ rfl hl.1 rfl (Nat.le_of_ble_eq_true rfl) dX9_oddByCells_13 ⟨Nat.le_of_ble_eq_true rfl, Nat.le_of_ble_eq_true rfl⟩ (fun r w13 H locs hM hw => ?_)
        obtain ⟨hr, hw⟩ := hw
        rw [hr]
        rw [hw] at hM
        refine lv_iconst (v := 1) hx hb dX9_oddByCells_16 (by decide) ?_
        refine lv_icmp_ne (tgt := 35) hx hb dX9_oddByCells_17 (by decide) (fun hcd => ?_) (fun hcd => ?_)
        · rw [if_neg hcd] at hf
          refine lv_iconst (v := 0) hx hb dX9_oddByCells_35 (by decide) ?_
          refine lv_iadd hx hb dX9_oddByCells_36 ?_
          refine lv_istore_n (lv' := [(1, .int (L4_x1 + 0)), (0, .ref b), (2, .int L4_x2)]) hx hb dX9_oddByCells_37 rfl hl (by decide) rfl (fun ls hl => ?_)
          refine lv_iinc (v := (L4_x2 + 1)) (lv' := [(2, .int (L4_x2 + 1)), (1, .int (L4_x1 + 0)), (0, .ref b)]) hx hb dX9_oddByCells_38 hl (k := 2) rfl rfl (by decide) rfl (fun ls hl => ?_)
          refine lv_goto (tgt := 4) hx hb dX9_oddByCells_41 (by decide) ?_
          exact ih _ _ _ hf _ _ hM _ (lv_sub hl [2, 1, 0] rfl) hk
        · rw [if_pos hcd] at hf
          refine lv_aload_n hx hb dX9_oddByCells_20 rfl (lv_at hl 0 rfl) ?_
          refine lv_iload_n hx hb dX9_oddByCells_21 rfl (lv_at hl 2 rfl) ?_
          obtain ⟨q22, hq22, hf⟩ := mm_bd hf
          refine mm_SNi (rest := [.ref b, .int L4_x1]) hC hM (c_X12_image l hq22) q2_75 q1_1 ykX12_image q2_73 q2_74 ⟨rfl, rfl⟩ ⟨Nat.le_of_ble_eq_true rfl, Nat.le_of_ble_eq_true rfl⟩ rfl hl.1 rfl (Nat.le_of_ble_eq_true rfl) dX9_oddByCells_22 ⟨Nat.le_of_ble_eq_true rfl, Nat.le_of_ble_eq_true rfl⟩ (fun r w22 H locs hM hw => ?_)
          obtain ⟨hr, hw⟩ := hw
          rw [hr]
          rw [hw] at hM
          obtain ⟨q25, hq25, hf⟩ := mm_bd hf
          refine mm_Vi (rest := [.int L4_x1]) hC hM (c_X9_standingIn l hq25 hp_this) q2_72 q1_3 ykX9_standingIn q2_69 q2_70 q2_71 hp_this.1 rfl ⟨rfl, rfl⟩ ⟨Nat.le_of_ble_eq_true rfl, Nat.le_of_ble_eq_true rfl⟩ rfl hl.1 rfl (Nat.le_of_ble_eq_true rfl) dX9_oddByCells_25 ⟨Nat.le_of_ble_eq_true rfl, Nat.le_of_ble_eq_true rfl⟩ (fun r w25 H locs hM hw => ?_)
          obtain ⟨hr, hw⟩ := hw
          rw [hr]
          rw [hw] at hM
          refine lv_if_ne (tgt := 35) hx hb dX9_oddByCells_28 (by decide) (fun hcd => ?_) (fun hcd => ?_)
          · rw [if_neg hcd] at hf
            refine lv_iconst (v := 0) hx hb dX9_oddByCells_35 (by decide) ?_
            refine lv_iadd hx hb dX9_oddByCells_36 ?_
            refine lv_istore_n (lv' := [(1, .int (L4_x1 + 0)), (0, .ref b), (2, .int L4_x2)]) hx hb dX9_oddByCells_37 rfl hl (by decide) rfl (fun ls hl => ?_)
            refine lv_iinc (v := (L4_x2 + 1)) (lv' := [(2, .int (L4_x2 + 1)), (1, .int (L4_x1 + 0)), (0, .ref b)]) hx hb dX9_oddByCells_38 hl (k := 2) rfl rfl (by decide) rfl (fun ls hl => ?_)
            refine lv_goto (tgt := 4) hx hb dX9_oddByCells_41 (by decide) ?_
            exact ih _ _ _ hf _ _ hM _ (lv_sub hl [2, 1, 0] rfl) hk
          · rw [if_pos hcd] at hf
            refine lv_iconst (v := 1) hx hb dX9_oddByCells_31 (by decide) ?_
            refine lv_goto (tgt := 36) hx hb dX9_oddByCells_32 (by decide) ?_
            refine lv_iadd hx hb dX9_oddByCells_36 ?_
            refine lv_istore_n (lv' := [(1, .int (L4_x1 + 1)), (0, .ref b), (2, .int L4_x2)]) hx hb dX9_oddByCells_37 rfl hl (by decide) rfl (fun ls hl => ?_)
            refine lv_iinc (v := (L4_x2 + 1)) (lv' := [(2, .int (L4_x2 + 1)), (1, .int (L4_x1 + 1)), (0, .ref b)]) hx hb dX9_oddByCells_38 hl (k := 2) rfl rfl (by decide) rfl (fun ls hl => ?_)
            refine lv_goto (tgt := 4) hx hb dX9_oddByCells_41 (by decide) ?_
            exact ih _ _ _ hf _ _ hM _ (lv_sub hl [2, 1, 0] rfl) hk
  obtain ⟨q4, hq4, hf⟩ := mm_bd hf
  refine L4 K _ _ _ hq4 _ _ hM _ (lv_sub hl [2, 1, 0] rfl) (fun H locs hM ls hl => ?_)
  refine lv_iload_n hx hb dX9_oddByCells_44 rfl (lv_at hl 0 rfl) ?_
  cases hf
  exact hret hM dX9_oddByCells_45 rfl ⟨rfl, rfl⟩
def f_J6_bitCount_0f7a4 (x0 : Int32) : Option (Int32) := some ((((((((x0 - ((x0.toUInt32 >>> ((1 : Int32).toUInt32 &&& Int32.toUInt32 31)).toInt32 &&& 1431655765)) &&& 858993459) + (((x0 - ((x0.toUInt32 >>> ((1 : Int32).toUInt32 &&& Int32.toUInt32 31)).toInt32 &&& 1431655765)).toUInt32 >>> ((2 : Int32).toUInt32 &&& Int32.toUInt32 31)).toInt32 &&& 858993459)) + ((((x0 - ((x0.toUInt32 >>> ((1 : Int32).toUInt32 &&& Int32.toUInt32 31)).toInt32 &&& 1431655765)) &&& 858993459) + (((x0 - ((x0.toUInt32 >>> ((1 : Int32).toUInt32 &&& Int32.toUInt32 31)).toInt32 &&& 1431655765)).toUInt32 >>> ((2 : Int32).toUInt32 &&& Int32.toUInt32 31)).toInt32 &&& 858993459)).toUInt32 >>> ((4 : Int32).toUInt32 &&& Int32.toUInt32 31)).toInt32) &&& 252645135) + ((((((x0 - ((x0.toUInt32 >>> ((1 : Int32).toUInt32 &&& Int32.toUInt32 31)).toInt32 &&& 1431655765)) &&& 858993459) + (((x0 - ((x0.toUInt32 >>> ((1 : Int32).toUInt32 &&& Int32.toUInt32 31)).toInt32 &&& 1431655765)).toUInt32 >>> ((2 : Int32).toUInt32 &&& Int32.toUInt32 31)).toInt32 &&& 858993459)) + ((((x0 - ((x0.toUInt32 >>> ((1 : Int32).toUInt32 &&& Int32.toUInt32 31)).toInt32 &&& 1431655765)) &&& 858993459) + (((x0 - ((x0.toUInt32 >>> ((1 : Int32).toUInt32 &&& Int32.toUInt32 31)).toInt32 &&& 1431655765)).toUInt32 >>> ((2 : Int32).toUInt32 &&& Int32.toUInt32 31)).toInt32 &&& 858993459)).toUInt32 >>> ((4 : Int32).toUInt32 &&& Int32.toUInt32 31)).toInt32) &&& 252645135).toUInt32 >>> ((8 : Int32).toUInt32 &&& Int32.toUInt32 31)).toInt32) + (((((((x0 - ((x0.toUInt32 >>> ((1 : Int32).toUInt32 &&& Int32.toUInt32 31)).toInt32 &&& 1431655765)) &&& 858993459) + (((x0 - ((x0.toUInt32 >>> ((1 : Int32).toUInt32 &&& Int32.toUInt32 31)).toInt32 &&& 1431655765)).toUInt32 >>> ((2 : Int32).toUInt32 &&& Int32.toUInt32 31)).toInt32 &&& 858993459)) + ((((x0 - ((x0.toUInt32 >>> ((1 : Int32).toUInt32 &&& Int32.toUInt32 31)).toInt32 &&& 1431655765)) &&& 858993459) + (((x0 - ((x0.toUInt32 >>> ((1 : Int32).toUInt32 &&& Int32.toUInt32 31)).toInt32 &&& 1431655765)).toUInt32 >>> ((2 : Int32).toUInt32 &&& Int32.toUInt32 31)).toInt32 &&& 858993459)).toUInt32 >>> ((4 : Int32).toUInt32 &&& Int32.toUInt32 31)).toInt32) &&& 252645135) + ((((((x0 - ((x0.toUInt32 >>> ((1 : Int32).toUInt32 &&& Int32.toUInt32 31)).toInt32 &&& 1431655765)) &&& 858993459) + (((x0 - ((x0.toUInt32 >>> ((1 : Int32).toUInt32 &&& Int32.toUInt32 31)).toInt32 &&& 1431655765)).toUInt32 >>> ((2 : Int32).toUInt32 &&& Int32.toUInt32 31)).toInt32 &&& 858993459)) + ((((x0 - ((x0.toUInt32 >>> ((1 : Int32).toUInt32 &&& Int32.toUInt32 31)).toInt32 &&& 1431655765)) &&& 858993459) + (((x0 - ((x0.toUInt32 >>> ((1 : Int32).toUInt32 &&& Int32.toUInt32 31)).toInt32 &&& 1431655765)).toUInt32 >>> ((2 : Int32).toUInt32 &&& Int32.toUInt32 31)).toInt32 &&& 858993459)).toUInt32 >>> ((4 : Int32).toUInt32 &&& Int32.toUInt32 31)).toInt32) &&& 252645135).toUInt32 >>> ((8 : Int32).toUInt32 &&& Int32.toUInt32 31)).toInt32).toUInt32 >>> ((16 : Int32).toUInt32 &&& Int32.toUInt32 31)).toInt32) &&& 63)
set_option maxHeartbeats 4000000 in
set_option maxRecDepth 100000 in
theorem c_J6_bitCount_0f7a4 (l : Launch) {G : mm_G} {w : va_W} {sz : Nat} {x0 : Int32} {X : Int32} (hf : f_J6_bitCount_0f7a4 x0 = some X) : Met l yJ6_bitCount_0f7a4 (Cond.code yJ6_bitCount_0f7a4 cJ6_bitCount_0f7a4 1 (some .int) :: gAll) ({ frames := 0, cells := 0, slots := 0, locals := 0 }) (va_Pc [.int x0] (mm_Pre G w sz)) (mm_Qi G w sz (fun r w' => r = X ∧ w' = w)) 0 0 (va_A w sz) := by
  refine mm_headI [.int x0] (by decide +kernel) rfl (Nat.le_of_ble_eq_true rfl) ?_
  intro p e s m args below meth c A Q hsz hC hM hret ls hl
  have hx := hC.1.1
  have hb := hC.1.2.1
  have hl : lv_has ls 1 [(0, .int x0)] := hl
  rw [f_J6_bitCount_0f7a4] at hf
  refine lv_iload_n hx hb dJ6_bitCount_0f7a4_0 rfl (lv_at hl 0 rfl) ?_
  refine lv_iload_n hx hb dJ6_bitCount_0f7a4_1 rfl (lv_at hl 0 rfl) ?_
  refine lv_iconst (v := 1) hx hb dJ6_bitCount_0f7a4_2 (by decide) ?_
  refine lv_iushr hx hb dJ6_bitCount_0f7a4_3 rfl ?_
  refine lv_ldcw hx hb hC.1.2.2.2.1 (hC.1.2.2.2.2 _ q2_87) dJ6_bitCount_0f7a4_4 ?_
  refine lv_iand hx hb dJ6_bitCount_0f7a4_7 ?_
  refine lv_isub hx hb dJ6_bitCount_0f7a4_8 ?_
  refine lv_istore_n (lv' := [(0, .int (x0 - ((x0.toUInt32 >>> ((1 : Int32).toUInt32 &&& Int32.toUInt32 31)).toInt32 &&& 1431655765)))]) hx hb dJ6_bitCount_0f7a4_9 rfl hl (by decide) rfl (fun ls hl => ?_)
  refine lv_iload_n hx hb dJ6_bitCount_0f7a4_10 rfl (lv_at hl 0 rfl) ?_
  refine lv_ldcw hx hb hC.1.2.2.2.1 (hC.1.2.2.2.2 _ q2_88) dJ6_bitCount_0f7a4_11 ?_
  refine lv_iand hx hb dJ6_bitCount_0f7a4_14 ?_
  refine lv_iload_n hx hb dJ6_bitCount_0f7a4_15 rfl (lv_at hl 0 rfl) ?_
  refine lv_iconst (v := 2) hx hb dJ6_bitCount_0f7a4_16 (by decide) ?_
  refine lv_iushr hx hb dJ6_bitCount_0f7a4_17 rfl ?_
  refine lv_ldcw hx hb hC.1.2.2.2.1 (hC.1.2.2.2.2 _ q2_88) dJ6_bitCount_0f7a4_18 ?_
  refine lv_iand hx hb dJ6_bitCount_0f7a4_21 ?_
  refine lv_iadd hx hb dJ6_bitCount_0f7a4_22 ?_
  refine lv_istore_n (lv' := [(0, .int (((x0 - ((x0.toUInt32 >>> ((1 : Int32).toUInt32 &&& Int32.toUInt32 31)).toInt32 &&& 1431655765)) &&& 858993459) + (((x0 - ((x0.toUInt32 >>> ((1 : Int32).toUInt32 &&& Int32.toUInt32 31)).toInt32 &&& 1431655765)).toUInt32 >>> ((2 : Int32).toUInt32 &&& Int32.toUInt32 31)).toInt32 &&& 858993459)))]) hx hb dJ6_bitCount_0f7a4_23 rfl hl (by decide) rfl (fun ls hl => ?_)
  refine lv_iload_n hx hb dJ6_bitCount_0f7a4_24 rfl (lv_at hl 0 rfl) ?_
  refine lv_iload_n hx hb dJ6_bitCount_0f7a4_25 rfl (lv_at hl 0 rfl) ?_
  refine lv_iconst (v := 4) hx hb dJ6_bitCount_0f7a4_26 (by decide) ?_
  refine lv_iushr hx hb dJ6_bitCount_0f7a4_27 rfl ?_
  refine lv_iadd hx hb dJ6_bitCount_0f7a4_28 ?_
  refine lv_ldcw hx hb hC.1.2.2.2.1 (hC.1.2.2.2.2 _ q2_89) dJ6_bitCount_0f7a4_29 ?_
  refine lv_iand hx hb dJ6_bitCount_0f7a4_32 ?_
  refine lv_istore_n (lv' := [(0, .int (((((x0 - ((x0.toUInt32 >>> ((1 : Int32).toUInt32 &&& Int32.toUInt32 31)).toInt32 &&& 1431655765)) &&& 858993459) + (((x0 - ((x0.toUInt32 >>> ((1 : Int32).toUInt32 &&& Int32.toUInt32 31)).toInt32 &&& 1431655765)).toUInt32 >>> ((2 : Int32).toUInt32 &&& Int32.toUInt32 31)).toInt32 &&& 858993459)) + ((((x0 - ((x0.toUInt32 >>> ((1 : Int32).toUInt32 &&& Int32.toUInt32 31)).toInt32 &&& 1431655765)) &&& 858993459) + (((x0 - ((x0.toUInt32 >>> ((1 : Int32).toUInt32 &&& Int32.toUInt32 31)).toInt32 &&& 1431655765)).toUInt32 >>> ((2 : Int32).toUInt32 &&& Int32.toUInt32 31)).toInt32 &&& 858993459)).toUInt32 >>> ((4 : Int32).toUInt32 &&& Int32.toUInt32 31)).toInt32) &&& 252645135))]) hx hb dJ6_bitCount_0f7a4_33 rfl hl (by decide) rfl (fun ls hl => ?_)
  refine lv_iload_n hx hb dJ6_bitCount_0f7a4_34 rfl (lv_at hl 0 rfl) ?_
  refine lv_iload_n hx hb dJ6_bitCount_0f7a4_35 rfl (lv_at hl 0 rfl) ?_
  refine lv_bipush (v := 8) hx hb dJ6_bitCount_0f7a4_36 (by decide) ?_
  refine lv_iushr hx hb dJ6_bitCount_0f7a4_38 rfl ?_
  refine lv_iadd hx hb dJ6_bitCount_0f7a4_39 ?_
  refine lv_istore_n (lv' := [(0, .int ((((((x0 - ((x0.toUInt32 >>> ((1 : Int32).toUInt32 &&& Int32.toUInt32 31)).toInt32 &&& 1431655765)) &&& 858993459) + (((x0 - ((x0.toUInt32 >>> ((1 : Int32).toUInt32 &&& Int32.toUInt32 31)).toInt32 &&& 1431655765)).toUInt32 >>> ((2 : Int32).toUInt32 &&& Int32.toUInt32 31)).toInt32 &&& 858993459)) + ((((x0 - ((x0.toUInt32 >>> ((1 : Int32).toUInt32 &&& Int32.toUInt32 31)).toInt32 &&& 1431655765)) &&& 858993459) + (((x0 - ((x0.toUInt32 >>> ((1 : Int32).toUInt32 &&& Int32.toUInt32 31)).toInt32 &&& 1431655765)).toUInt32 >>> ((2 : Int32).toUInt32 &&& Int32.toUInt32 31)).toInt32 &&& 858993459)).toUInt32 >>> ((4 : Int32).toUInt32 &&& Int32.toUInt32 31)).toInt32) &&& 252645135) + ((((((x0 - ((x0.toUInt32 >>> ((1 : Int32).toUInt32 &&& Int32.toUInt32 31)).toInt32 &&& 1431655765)) &&& 858993459) + (((x0 - ((x0.toUInt32 >>> ((1 : Int32).toUInt32 &&& Int32.toUInt32 31)).toInt32 &&& 1431655765)).toUInt32 >>> ((2 : Int32).toUInt32 &&& Int32.toUInt32 31)).toInt32 &&& 858993459)) + ((((x0 - ((x0.toUInt32 >>> ((1 : Int32).toUInt32 &&& Int32.toUInt32 31)).toInt32 &&& 1431655765)) &&& 858993459) + (((x0 - ((x0.toUInt32 >>> ((1 : Int32).toUInt32 &&& Int32.toUInt32 31)).toInt32 &&& 1431655765)).toUInt32 >>> ((2 : Int32).toUInt32 &&& Int32.toUInt32 31)).toInt32 &&& 858993459)).toUInt32 >>> ((4 : Int32).toUInt32 &&& Int32.toUInt32 31)).toInt32) &&& 252645135).toUInt32 >>> ((8 : Int32).toUInt32 &&& Int32.toUInt32 31)).toInt32))]) hx hb dJ6_bitCount_0f7a4_40 rfl hl (by decide) rfl (fun ls hl => ?_)
  refine lv_iload_n hx hb dJ6_bitCount_0f7a4_41 rfl (lv_at hl 0 rfl) ?_
  refine lv_iload_n hx hb dJ6_bitCount_0f7a4_42 rfl (lv_at hl 0 rfl) ?_
  refine lv_bipush (v := 16) hx hb dJ6_bitCount_0f7a4_43 (by decide) ?_
  refine lv_iushr hx hb dJ6_bitCount_0f7a4_45 rfl ?_
  refine lv_iadd hx hb dJ6_bitCount_0f7a4_46 ?_
  refine lv_istore_n (lv' := [(0, .int (((((((x0 - ((x0.toUInt32 >>> ((1 : Int32).toUInt32 &&& Int32.toUInt32 31)).toInt32 &&& 1431655765)) &&& 858993459) + (((x0 - ((x0.toUInt32 >>> ((1 : Int32).toUInt32 &&& Int32.toUInt32 31)).toInt32 &&& 1431655765)).toUInt32 >>> ((2 : Int32).toUInt32 &&& Int32.toUInt32 31)).toInt32 &&& 858993459)) + ((((x0 - ((x0.toUInt32 >>> ((1 : Int32).toUInt32 &&& Int32.toUInt32 31)).toInt32 &&& 1431655765)) &&& 858993459) + (((x0 - ((x0.toUInt32 >>> ((1 : Int32).toUInt32 &&& Int32.toUInt32 31)).toInt32 &&& 1431655765)).toUInt32 >>> ((2 : Int32).toUInt32 &&& Int32.toUInt32 31)).toInt32 &&& 858993459)).toUInt32 >>> ((4 : Int32).toUInt32 &&& Int32.toUInt32 31)).toInt32) &&& 252645135) + ((((((x0 - ((x0.toUInt32 >>> ((1 : Int32).toUInt32 &&& Int32.toUInt32 31)).toInt32 &&& 1431655765)) &&& 858993459) + (((x0 - ((x0.toUInt32 >>> ((1 : Int32).toUInt32 &&& Int32.toUInt32 31)).toInt32 &&& 1431655765)).toUInt32 >>> ((2 : Int32).toUInt32 &&& Int32.toUInt32 31)).toInt32 &&& 858993459)) + ((((x0 - ((x0.toUInt32 >>> ((1 : Int32).toUInt32 &&& Int32.toUInt32 31)).toInt32 &&& 1431655765)) &&& 858993459) + (((x0 - ((x0.toUInt32 >>> ((1 : Int32).toUInt32 &&& Int32.toUInt32 31)).toInt32 &&& 1431655765)).toUInt32 >>> ((2 : Int32).toUInt32 &&& Int32.toUInt32 31)).toInt32 &&& 858993459)).toUInt32 >>> ((4 : Int32).toUInt32 &&& Int32.toUInt32 31)).toInt32) &&& 252645135).toUInt32 >>> ((8 : Int32).toUInt32 &&& Int32.toUInt32 31)).toInt32) + (((((((x0 - ((x0.toUInt32 >>> ((1 : Int32).toUInt32 &&& Int32.toUInt32 31)).toInt32 &&& 1431655765)) &&& 858993459) + (((x0 - ((x0.toUInt32 >>> ((1 : Int32).toUInt32 &&& Int32.toUInt32 31)).toInt32 &&& 1431655765)).toUInt32 >>> ((2 : Int32).toUInt32 &&& Int32.toUInt32 31)).toInt32 &&& 858993459)) + ((((x0 - ((x0.toUInt32 >>> ((1 : Int32).toUInt32 &&& Int32.toUInt32 31)).toInt32 &&& 1431655765)) &&& 858993459) + (((x0 - ((x0.toUInt32 >>> ((1 : Int32).toUInt32 &&& Int32.toUInt32 31)).toInt32 &&& 1431655765)).toUInt32 >>> ((2 : Int32).toUInt32 &&& Int32.toUInt32 31)).toInt32 &&& 858993459)).toUInt32 >>> ((4 : Int32).toUInt32 &&& Int32.toUInt32 31)).toInt32) &&& 252645135) + ((((((x0 - ((x0.toUInt32 >>> ((1 : Int32).toUInt32 &&& Int32.toUInt32 31)).toInt32 &&& 1431655765)) &&& 858993459) + (((x0 - ((x0.toUInt32 >>> ((1 : Int32).toUInt32 &&& Int32.toUInt32 31)).toInt32 &&& 1431655765)).toUInt32 >>> ((2 : Int32).toUInt32 &&& Int32.toUInt32 31)).toInt32 &&& 858993459)) + ((((x0 - ((x0.toUInt32 >>> ((1 : Int32).toUInt32 &&& Int32.toUInt32 31)).toInt32 &&& 1431655765)) &&& 858993459) + (((x0 - ((x0.toUInt32 >>> ((1 : Int32).toUInt32 &&& Int32.toUInt32 31)).toInt32 &&& 1431655765)).toUInt32 >>> ((2 : Int32).toUInt32 &&& Int32.toUInt32 31)).toInt32 &&& 858993459)).toUInt32 >>> ((4 : Int32).toUInt32 &&& Int32.toUInt32 31)).toInt32) &&& 252645135).toUInt32 >>> ((8 : Int32).toUInt32 &&& Int32.toUInt32 31)).toInt32).toUInt32 >>> ((16 : Int32).toUInt32 &&& Int32.toUInt32 31)).toInt32))]) hx hb dJ6_bitCount_0f7a4_47 rfl hl (by decide) rfl (fun ls hl => ?_)
  refine lv_iload_n hx hb dJ6_bitCount_0f7a4_48 rfl (lv_at hl 0 rfl) ?_
  refine lv_bipush (v := 63) hx hb dJ6_bitCount_0f7a4_49 (by decide) ?_
  refine lv_iand hx hb dJ6_bitCount_0f7a4_51 ?_
  cases hf
  exact hret hM dJ6_bitCount_0f7a4_52 rfl ⟨rfl, rfl⟩
def f_X9_oddByRows_L18 (states : Nat → Int32) (x2 : Int32) : Nat → (Int32) → (Int32) → (Int32) → Option (Int32 × Int32)
  | 0, _, _, _ => none
  | n + 1, x3, x4, x5 => if 9 ≤ x5 then some (x3, x4) else (f_X9_standingIn states ((x2 * 9) + x5)).bind fun q33 => f_X9_oddByRows_L18 states x2 n (x3 ||| (q33 <<< (x5 &&& 31))) (x4 ||| (q33 <<< ((8 - x5) &&& 31))) (x5 + 1)
def f_X9_oddByRows_L4 (K : Nat) (states : Nat → Int32) : Nat → (Int32) → (Int32) → Option (Int32)
  | 0, _, _ => none
  | n + 1, x1, x2 => if 9 ≤ x2 then some x1 else (f_X9_oddByRows_L18 states x2 K 0 0 0).bind fun q18 => (f_J6_bitCount_0f7a4 (q18.1 &&& (q18.2 ^^^ (-1)))).bind fun q72 => f_X9_oddByRows_L4 K states n (x1 + q72) (x2 + 1)
def f_X9_oddByRows (K : Nat) (states : Nat → Int32) : Option (Int32) := (f_X9_oddByRows_L4 K states K 0 0).bind fun q4 => some q4
set_option maxHeartbeats 4000000 in
set_option maxRecDepth 100000 in
theorem c_X9_oddByRows (l : Launch) {G : mm_G} {K : Nat} {w : va_W} {sz : Nat} {b : Nat} {states : Nat → Int32} {count : Int32} {broken : Int32} {X : Int32} (hf : f_X9_oddByRows K states = some X) (hp_this : At9 G w b states count broken) : Met l yX9_oddByRows (Cond.code yX9_oddByRows cX9_oddByRows 7 (some .int) :: gAll) ({ frames := 1, cells := 0, slots := 0, locals := 21 }) (va_Pc [.ref b] (mm_Pre G w sz)) (mm_Qi G w sz (fun r w' => r = X ∧ w' = w)) 0 0 (va_A w sz) := by
  refine mm_headI [.ref b] (by decide +kernel) rfl (Nat.le_of_ble_eq_true rfl) ?_
  intro p e s m args below meth c A Q hsz hC hM hret ls hl
  have hx := hC.1.1
  have hb := hC.1.2.1
  have hl : lv_has ls 7 [(0, .ref b)] := hl
  rw [f_X9_oddByRows] at hf
  refine lv_iconst (v := 0) hx hb dX9_oddByRows_0 (by decide) ?_
  refine lv_istore_n (lv' := [(1, .int 0), (0, .ref b)]) hx hb dX9_oddByRows_1 rfl hl (by decide) rfl (fun ls hl => ?_)
  refine lv_iconst (v := 0) hx hb dX9_oddByRows_2 (by decide) ?_
  refine lv_istore_n (lv' := [(2, .int 0), (1, .int 0), (0, .ref b)]) hx hb dX9_oddByRows_3 rfl hl (by decide) rfl (fun ls hl => ?_)
  have L4 : ∀ (n : Nat) (L4_x1 : Int32) (L4_x2 : Int32) (X : Int32), f_X9_oddByRows_L4 K states n L4_x1 L4_x2 = some X → ∀ (H : Heap) (locs : List Loc), mm_S G A s.heap w H locs → ∀ (ls : Array Slot), lv_has ls 7 [(0, .ref b), (1, .int L4_x1), (2, .int L4_x2)] → (∀ (H : Heap) (locs : List Loc), mm_S G A s.heap w H locs → ∀ (ls : Array Slot), lv_has ls 7 [(1, .int X)] → W p l e ({ frames := 1, cells := 0, slots := 0, locals := 21 } : Room) s m args below meth c H locs 0 0 Q (F0 m 83 ls [])) → W p l e ({ frames := 1, cells := 0, slots := 0, locals := 21 } : Room) s m args below meth c H locs 0 0 Q (F0 m 4 ls []) := by
    intro n
    induction n with
    | zero => intro L4_x1 L4_x2 X hf; cases hf
    | succ n ih =>
      intro L4_x1 L4_x2 X hf H locs hM ls hl hk
      rw [f_X9_oddByRows_L4] at hf
      refine lv_iload_n hx hb dX9_oddByRows_4 rfl (lv_at hl 2 rfl) ?_
      refine lv_bipush (v := 9) hx hb dX9_oddByRows_5 (by decide) ?_
      refine lv_icmp_ge (tgt := 83) hx hb dX9_oddByRows_7 (by decide) (fun hcd => ?_) (fun hcd => ?_)
      · rw [if_pos hcd] at hf
        cases hf
        exact hk _ _ hM _ (lv_sub hl [1] rfl)
      · rw [if_neg hcd] at hf
        refine lv_iconst (v := 0) hx hb dX9_oddByRows_10 (by decide) ?_
        refine lv_istore_n (lv' := [(3, .int 0), (0, .ref b), (1, .int L4_x1), (2, .int L4_x2)]) hx hb dX9_oddByRows_11 rfl hl (by decide) rfl (fun ls hl => ?_)
        refine lv_iconst (v := 0) hx hb dX9_oddByRows_12 (by decide) ?_
        refine lv_istore (lv' := [(4, .int 0), (3, .int 0), (0, .ref b), (1, .int L4_x1), (2, .int L4_x2)]) hx hb dX9_oddByRows_13 hl (by decide) rfl (fun ls hl => ?_)
        refine lv_iconst (v := 0) hx hb dX9_oddByRows_15 (by decide) ?_
        refine lv_istore (lv' := [(5, .int 0), (4, .int 0), (3, .int 0), (0, .ref b), (1, .int L4_x1), (2, .int L4_x2)]) hx hb dX9_oddByRows_16 hl (by decide) rfl (fun ls hl => ?_)
        have L18 : ∀ (n : Nat) (L18_x3 : Int32) (L18_x4 : Int32) (L18_x5 : Int32) (X : Int32 × Int32), f_X9_oddByRows_L18 states L4_x2 n L18_x3 L18_x4 L18_x5 = some X → ∀ (H : Heap) (locs : List Loc), mm_S G A s.heap w H locs → ∀ (ls : Array Slot), lv_has ls 7 [(0, .ref b), (1, .int L4_x1), (2, .int L4_x2), (3, .int L18_x3), (4, .int L18_x4), (5, .int L18_x5)] → (∀ (H : Heap) (locs : List Loc), mm_S G A s.heap w H locs → ∀ (ls : Array Slot), lv_has ls 7 [(0, .ref b), (1, .int L4_x1), (2, .int L4_x2), (3, .int X.1), (4, .int X.2)] → W p l e ({ frames := 1, cells := 0, slots := 0, locals := 21 } : Room) s m args below meth c H locs 0 0 Q (F0 m 65 ls [])) → W p l e ({ frames := 1, cells := 0, slots := 0, locals := 21 } : Room) s m args below meth c H locs 0 0 Q (F0 m 18 ls []) := by
          intro n
          induction n with
          | zero => intro L18_x3 L18_x4 L18_x5 X hf; cases hf
          | succ n ih =>
            intro L18_x3 L18_x4 L18_x5 X hf H locs hM ls hl hk
            rw [f_X9_oddByRows_L18] at hf
            refine lv_iload hx hb dX9_oddByRows_18 (lv_at hl 5 rfl) ?_
            refine lv_bipush (v := 9) hx hb dX9_oddByRows_20 (by decide) ?_
            refine lv_icmp_ge (tgt := 65) hx hb dX9_oddByRows_22 (by decide) (fun hcd => ?_) (fun hcd => ?_)
            · rw [if_pos hcd] at hf
              cases hf
              exact hk _ _ hM _ (lv_sub hl [0, 1, 2, 3, 4] rfl)
            · rw [if_neg hcd] at hf
              refine lv_aload_n hx hb dX9_oddByRows_25 rfl (lv_at hl 0 rfl) ?_
              refine lv_iload_n hx hb dX9_oddByRows_26 rfl (lv_at hl 2 rfl) ?_
              refine lv_bipush (v := 9) hx hb dX9_oddByRows_27 (by decide) ?_
              refine lv_imul hx hb dX9_oddByRows_29 ?_
              refine lv_iload hx hb dX9_oddByRows_30 (lv_at hl 5 rfl) ?_
              refine lv_iadd hx hb dX9_oddByRows_32 ?_
              obtain ⟨q33, hq33, hf⟩ := mm_bd hf
              refine mm_Vi (rest := []) hC hM (c_X9_standingIn l hq33 hp_this) q2_72 q1_3 ykX9_standingIn q2_69 q2_70 q2_71 hp_this.1 rfl ⟨rfl, rfl⟩ ⟨Nat.le_of_ble_eq_true rfl, Nat.le_of_ble_eq_true rfl⟩ rfl hl.1 rfl (Nat.le_of_ble_eq_true rfl) dX9_oddByRows_33 ⟨Nat.le_of_ble_eq_true rfl, Nat.le_of_ble_eq_true rfl⟩ (fun r w33 H locs hM hw => ?_)
              obtain ⟨hr, hw⟩ := hw
              rw [hr]
              rw [hw] at hM
              refine lv_istore (lv' := [(6, .int q33), (0, .ref b), (1, .int L4_x1), (2, .int L4_x2), (3, .int L18_x3), (4, .int L18_x4), (5, .int L18_x5)]) hx hb dX9_oddByRows_36 hl (by decide) rfl (fun ls hl => ?_)
              refine lv_iload_n hx hb dX9_oddByRows_38 rfl (lv_at hl 4 rfl) ?_
              refine lv_iload hx hb dX9_oddByRows_39 (lv_at hl 0 rfl) ?_
              refine lv_iload hx hb dX9_oddByRows_41 (lv_at hl 6 rfl) ?_
              refine lv_ishl hx hb dX9_oddByRows_43 ?_
              refine lv_ior hx hb dX9_oddByRows_44 ?_
              refine lv_istore_n (lv' := [(3, .int (L18_x3 ||| (q33 <<< (L18_x5 &&& 31)))), (6, .int q33), (0, .ref b), (1, .int L4_x1), (2, .int L4_x2), (4, .int L18_x4), (5, .int L18_x5)]) hx hb dX9_oddByRows_45 rfl hl (by decide) rfl (fun ls hl => ?_)
              refine lv_iload hx hb dX9_oddByRows_46 (lv_at hl 5 rfl) ?_
              refine lv_iload hx hb dX9_oddByRows_48 (lv_at hl 1 rfl) ?_
              refine lv_bipush (v := 8) hx hb dX9_oddByRows_50 (by decide) ?_
              refine lv_iload hx hb dX9_oddByRows_52 (lv_at hl 6 rfl) ?_
              refine lv_isub hx hb dX9_oddByRows_54 ?_
              refine lv_ishl hx hb dX9_oddByRows_55 ?_
              refine lv_ior hx hb dX9_oddByRows_56 ?_
              refine lv_istore (lv' := [(4, .int (L18_x4 ||| (q33 <<< ((8 - L18_x5) &&& 31)))), (3, .int (L18_x3 ||| (q33 <<< (L18_x5 &&& 31)))), (6, .int q33), (0, .ref b), (1, .int L4_x1), (2, .int L4_x2), (5, .int L18_x5)]) hx hb dX9_oddByRows_57 hl (by decide) rfl (fun ls hl => ?_)
              refine lv_iinc (v := (L18_x5 + 1)) (lv' := [(5, .int (L18_x5 + 1)), (4, .int (L18_x4 ||| (q33 <<< ((8 - L18_x5) &&& 31)))), (3, .int (L18_x3 ||| (q33 <<< (L18_x5 &&& 31)))), (6, .int q33), (0, .ref b), (1, .int L4_x1), (2, .int L4_x2)]) hx hb dX9_oddByRows_59 hl (k := 6) rfl rfl (by decide) rfl (fun ls hl => ?_)
              refine lv_goto (tgt := 18) hx hb dX9_oddByRows_62 (by decide) ?_
              exact ih _ _ _ _ hf _ _ hM _ (lv_sub hl [4, 5, 6, 2, 1, 0] rfl) hk
        obtain ⟨q18, hq18, hf⟩ := mm_bd hf
        refine L18 K _ _ _ _ hq18 _ _ hM _ (lv_sub hl [3, 4, 5, 2, 1, 0] rfl) (fun H locs hM ls hl => ?_)
        refine lv_iload_n hx hb dX9_oddByRows_65 rfl (lv_at hl 1 rfl) ?_
        refine lv_iload_n hx hb dX9_oddByRows_66 rfl (lv_at hl 3 rfl) ?_
        refine lv_iload hx hb dX9_oddByRows_67 (lv_at hl 4 rfl) ?_
        refine lv_iconst (v := (-1)) hx hb dX9_oddByRows_69 (by decide) ?_
        refine lv_ixor hx hb dX9_oddByRows_70 ?_
        refine lv_iand hx hb dX9_oddByRows_71 ?_
        obtain ⟨q72, hq72, hf⟩ := mm_bd hf
        refine mm_Si (rest := [.int L4_x1]) hC hM (c_J6_bitCount_0f7a4 l hq72) q2_86 q1_25 ykJ6_bitCount_0f7a4 q2_84 q2_85 ⟨rfl, rfl⟩ ⟨Nat.le_of_ble_eq_true rfl, Nat.le_of_ble_eq_true rfl⟩ rfl hl.1 rfl (Nat.le_of_ble_eq_true rfl) dX9_oddByRows_72 ⟨Nat.le_of_ble_eq_true rfl, Nat.le_of_ble_eq_true rfl⟩ (fun r w72 H locs hM hw => ?_)
        obtain ⟨hr, hw⟩ := hw
        rw [hr]
        rw [hw] at hM
        refine lv_iadd hx hb dX9_oddByRows_75 ?_
        refine lv_istore_n (lv' := [(1, .int (L4_x1 + q72)), (0, .ref b), (2, .int L4_x2), (3, .int q18.1), (4, .int q18.2)]) hx hb dX9_oddByRows_76 rfl hl (by decide) rfl (fun ls hl => ?_)
        refine lv_iinc (v := (L4_x2 + 1)) (lv' := [(2, .int (L4_x2 + 1)), (1, .int (L4_x1 + q72)), (0, .ref b), (3, .int q18.1), (4, .int q18.2)]) hx hb dX9_oddByRows_77 hl (k := 2) rfl rfl (by decide) rfl (fun ls hl => ?_)
        refine lv_goto (tgt := 4) hx hb dX9_oddByRows_80 (by decide) ?_
        exact ih _ _ _ hf _ _ hM _ (lv_sub hl [2, 1, 0] rfl) hk
  obtain ⟨q4, hq4, hf⟩ := mm_bd hf
  refine L4 K _ _ _ hq4 _ _ hM _ (lv_sub hl [2, 1, 0] rfl) (fun H locs hM ls hl => ?_)
  refine lv_iload_n hx hb dX9_oddByRows_83 rfl (lv_at hl 0 rfl) ?_
  cases hf
  exact hret hM dX9_oddByRows_84 rfl ⟨rfl, rfl⟩
def f_X9_grow (states : Nat → Int32) (count : Int32) (x1 : Int32) : Option (Int32 × (Nat → Int32) × Int32) := mm_g (mm_ck x1 81) (some ((count + 1), (upd states x1.toNatClampNeg 1), (count + 1)))
set_option maxHeartbeats 4000000 in
set_option maxRecDepth 100000 in
theorem c_X9_grow (l : Launch) {G : mm_G} {w : va_W} {sz : Nat} {b : Nat} {states : Nat → Int32} {count : Int32} {broken : Int32} {x1 : Int32} {X : Int32 × (Nat → Int32) × Int32} (hf : f_X9_grow states count x1 = some X) (hp_this : At9 G w b states count broken) : Met l yX9_grow (Cond.code yX9_grow cX9_grow 2 (some .int) :: gAll) ({ frames := 0, cells := 0, slots := 0, locals := 0 }) (va_Pc [.ref b, .int x1] (mm_Pre G w sz)) (mm_Qi G w sz (fun r w' => r = X.1 ∧ At9 G w' b X.2.1 X.2.2 broken ∧ mm_fr w w' b (b + 2))) 0 0 (va_A w sz) := by
  refine mm_headI [.ref b, .int x1] (by decide +kernel) rfl (Nat.le_of_ble_eq_true rfl) ?_
  intro p e s m args below meth c A Q hsz hC hM hret ls hl
  have hx := hC.1.1
  have hb := hC.1.2.1
  have hl : lv_has ls 2 [(0, .ref b), (1, .int x1)] := hl
  have hF : mm_fr w w b (b + 2) := mm_fr.rf
  rw [f_X9_grow] at hf
  refine lv_aload_n hx hb dX9_grow_0 rfl (lv_at hl 0 rfl) ?_
  refine mm_get hC hM (k := 0) hp_this.1 rfl inAX9 (by decide) q1_53 rfl dX9_grow_1 ?_
  refine lv_iload_n hx hb dX9_grow_4 rfl (lv_at hl 1 rfl) ?_
  refine lv_iconst (v := 1) hx hb dX9_grow_5 (by decide) ?_
  obtain ⟨hg6, hf⟩ := mm_gd hf
  refine mm_iast hC hM (hp_this.2) hg6 dX9_grow_6 (fun w6 H locs hM hm => ?_)
  have hp_this : At9 G w6 b (upd states x1.toNatClampNeg 1) count broken := ⟨hm.keep (hp_this.1) (by omega), hm.1⟩
  have hF := hF.tr (hm.fr (by omega) (by omega))
  refine lv_aload_n hx hb dX9_grow_7 rfl (lv_at hl 0 rfl) ?_
  refine lv_dup hx hb dX9_grow_8 rfl ?_
  refine mm_get hC hM (k := 1) hp_this.1 rfl inAX9 (by decide) q1_54 rfl dX9_grow_9 ?_
  refine lv_iconst (v := 1) hx hb dX9_grow_12 (by decide) ?_
  refine lv_iadd hx hb dX9_grow_13 ?_
  refine mm_put hC hM (k := 1) tyX9 hp_this.1 rfl inAX9 tyX9_ok nmX9 (by decide) q1_54 rfl rfl rfl rfl (Nat.le_of_ble_eq_true rfl) dX9_grow_14 (fun w14 H locs hM hm => ?_)
  have hp_this : At9 G w14 b (upd states x1.toNatClampNeg 1) (count + 1) broken := ⟨hm.1, hm.keep (hp_this.2) (by omega)⟩
  have hF := hF.tr (hm.fr (by omega) (by omega))
  refine lv_aload_n hx hb dX9_grow_17 rfl (lv_at hl 0 rfl) ?_
  refine mm_get hC hM (k := 1) hp_this.1 rfl inAX9 (by decide) q1_54 rfl dX9_grow_18 ?_
  cases hf
  exact hret hM dX9_grow_21 rfl ⟨rfl, hp_this, hF⟩
def f_X9_snap (states : Nat → Int32) (broken : Int32) (x1 : Int32) : Option (Int32 × (Nat → Int32) × Int32) := mm_g (mm_ck x1 81) (some ((broken + 1), (upd states x1.toNatClampNeg 2), (broken + 1)))
set_option maxHeartbeats 4000000 in
set_option maxRecDepth 100000 in
theorem c_X9_snap (l : Launch) {G : mm_G} {w : va_W} {sz : Nat} {b : Nat} {states : Nat → Int32} {count : Int32} {broken : Int32} {x1 : Int32} {X : Int32 × (Nat → Int32) × Int32} (hf : f_X9_snap states broken x1 = some X) (hp_this : At9 G w b states count broken) : Met l yX9_snap (Cond.code yX9_snap cX9_snap 2 (some .int) :: gAll) ({ frames := 0, cells := 0, slots := 0, locals := 0 }) (va_Pc [.ref b, .int x1] (mm_Pre G w sz)) (mm_Qi G w sz (fun r w' => r = X.1 ∧ At9 G w' b X.2.1 count X.2.2 ∧ mm_fr w w' b (b + 2))) 0 0 (va_A w sz) := by
  refine mm_headI [.ref b, .int x1] (by decide +kernel) rfl (Nat.le_of_ble_eq_true rfl) ?_
  intro p e s m args below meth c A Q hsz hC hM hret ls hl
  have hx := hC.1.1
  have hb := hC.1.2.1
  have hl : lv_has ls 2 [(0, .ref b), (1, .int x1)] := hl
  have hF : mm_fr w w b (b + 2) := mm_fr.rf
  rw [f_X9_snap] at hf
  refine lv_aload_n hx hb dX9_snap_0 rfl (lv_at hl 0 rfl) ?_
  refine mm_get hC hM (k := 0) hp_this.1 rfl inAX9 (by decide) q1_53 rfl dX9_snap_1 ?_
  refine lv_iload_n hx hb dX9_snap_4 rfl (lv_at hl 1 rfl) ?_
  refine lv_iconst (v := 2) hx hb dX9_snap_5 (by decide) ?_
  obtain ⟨hg6, hf⟩ := mm_gd hf
  refine mm_iast hC hM (hp_this.2) hg6 dX9_snap_6 (fun w6 H locs hM hm => ?_)
  have hp_this : At9 G w6 b (upd states x1.toNatClampNeg 2) count broken := ⟨hm.keep (hp_this.1) (by omega), hm.1⟩
  have hF := hF.tr (hm.fr (by omega) (by omega))
  refine lv_aload_n hx hb dX9_snap_7 rfl (lv_at hl 0 rfl) ?_
  refine lv_dup hx hb dX9_snap_8 rfl ?_
  refine mm_get hC hM (k := 2) hp_this.1 rfl inAX9 (by decide) q1_57 rfl dX9_snap_9 ?_
  refine lv_iconst (v := 1) hx hb dX9_snap_12 (by decide) ?_
  refine lv_iadd hx hb dX9_snap_13 ?_
  refine mm_put hC hM (k := 2) tyX9 hp_this.1 rfl inAX9 tyX9_ok nmX9 (by decide) q1_57 rfl rfl rfl rfl (Nat.le_of_ble_eq_true rfl) dX9_snap_14 (fun w14 H locs hM hm => ?_)
  have hp_this : At9 G w14 b (upd states x1.toNatClampNeg 2) count (broken + 1) := ⟨hm.1, hm.keep (hp_this.2) (by omega)⟩
  have hF := hF.tr (hm.fr (by omega) (by omega))
  refine lv_aload_n hx hb dX9_snap_17 rfl (lv_at hl 0 rfl) ?_
  refine mm_get hC hM (k := 2) hp_this.1 rfl inAX9 (by decide) q1_57 rfl dX9_snap_18 ?_
  cases hf
  exact hret hM dX9_snap_21 rfl ⟨rfl, hp_this, hF⟩
def f_X9_cut (states : Nat → Int32) (count : Int32) (broken : Int32) (x1 : Int32) : Option (Int32 × (Nat → Int32) × Int32 × Int32) := mm_g (mm_ck x1 81) (if (states x1.toNatClampNeg) = 2 then mm_g (mm_ck x1 81) (some ((count - 1), (upd states x1.toNatClampNeg 0), (count - 1), (broken - 1))) else mm_g (mm_ck x1 81) (some ((count - 1), (upd states x1.toNatClampNeg 0), (count - 1), (broken - 0))))
set_option maxHeartbeats 4000000 in
set_option maxRecDepth 100000 in
theorem c_X9_cut (l : Launch) {G : mm_G} {w : va_W} {sz : Nat} {b : Nat} {states : Nat → Int32} {count : Int32} {broken : Int32} {x1 : Int32} {X : Int32 × (Nat → Int32) × Int32 × Int32} (hf : f_X9_cut states count broken x1 = some X) (hp_this : At9 G w b states count broken) : Met l yX9_cut (Cond.code yX9_cut cX9_cut 2 (some .int) :: gAll) ({ frames := 0, cells := 0, slots := 0, locals := 0 }) (va_Pc [.ref b, .int x1] (mm_Pre G w sz)) (mm_Qi G w sz (fun r w' => r = X.1 ∧ At9 G w' b X.2.1 X.2.2.1 X.2.2.2 ∧ mm_fr w w' b (b + 2))) 0 0 (va_A w sz) := by
  refine mm_headI [.ref b, .int x1] (by decide +kernel) rfl (Nat.le_of_ble_eq_true rfl) ?_
  intro p e s m args below meth c A Q hsz hC hM hret ls hl
  have hx := hC.1.1
  have hb := hC.1.2.1
  have hl : lv_has ls 2 [(0, .ref b), (1, .int x1)] := hl
  have hF : mm_fr w w b (b + 2) := mm_fr.rf
  rw [f_X9_cut] at hf
  refine lv_aload_n hx hb dX9_cut_0 rfl (lv_at hl 0 rfl) ?_
  refine lv_dup hx hb dX9_cut_1 rfl ?_
  refine mm_get hC hM (k := 2) hp_this.1 rfl inAX9 (by decide) q1_57 rfl dX9_cut_2 ?_
  refine lv_aload_n hx hb dX9_cut_5 rfl (lv_at hl 0 rfl) ?_
  refine mm_get hC hM (k := 0) hp_this.1 rfl inAX9 (by decide) q1_53 rfl dX9_cut_6 ?_
  refine lv_iload_n hx hb dX9_cut_9 rfl (lv_at hl 1 rfl) ?_
  obtain ⟨hg10, hf⟩ := mm_gd hf
  refine mm_iald hC hM (hp_this.2) hg10 dX9_cut_10 ?_
  refine lv_iconst (v := 2) hx hb dX9_cut_11 (by decide) ?_
  refine lv_icmp_ne (tgt := 19) hx hb dX9_cut_12 (by decide) (fun hcd => ?_) (fun hcd => ?_)
  · rw [if_neg hcd] at hf
    refine lv_iconst (v := 0) hx hb dX9_cut_19 (by decide) ?_
    refine lv_isub hx hb dX9_cut_20 ?_
    refine mm_put hC hM (k := 2) tyX9 hp_this.1 rfl inAX9 tyX9_ok nmX9 (by decide) q1_57 rfl rfl rfl rfl (Nat.le_of_ble_eq_true rfl) dX9_cut_21 (fun w21 H locs hM hm => ?_)
    have hp_this : At9 G w21 b states count (broken - 0) := ⟨hm.1, hm.keep (hp_this.2) (by omega)⟩
    have hF := hF.tr (hm.fr (by omega) (by omega))
    refine lv_aload_n hx hb dX9_cut_24 rfl (lv_at hl 0 rfl) ?_
    refine mm_get hC hM (k := 0) hp_this.1 rfl inAX9 (by decide) q1_53 rfl dX9_cut_25 ?_
    refine lv_iload_n hx hb dX9_cut_28 rfl (lv_at hl 1 rfl) ?_
    refine lv_iconst (v := 0) hx hb dX9_cut_29 (by decide) ?_
    obtain ⟨hg30, hf⟩ := mm_gd hf
    refine mm_iast hC hM (hp_this.2) hg30 dX9_cut_30 (fun w30 H locs hM hm => ?_)
    have hp_this : At9 G w30 b (upd states x1.toNatClampNeg 0) count (broken - 0) := ⟨hm.keep (hp_this.1) (by omega), hm.1⟩
    have hF := hF.tr (hm.fr (by omega) (by omega))
    refine lv_aload_n hx hb dX9_cut_31 rfl (lv_at hl 0 rfl) ?_
    refine lv_dup hx hb dX9_cut_32 rfl ?_
    refine mm_get hC hM (k := 1) hp_this.1 rfl inAX9 (by decide) q1_54 rfl dX9_cut_33 ?_
    refine lv_iconst (v := 1) hx hb dX9_cut_36 (by decide) ?_
    refine lv_isub hx hb dX9_cut_37 ?_
    refine mm_put hC hM (k := 1) tyX9 hp_this.1 rfl inAX9 tyX9_ok nmX9 (by decide) q1_54 rfl rfl rfl rfl (Nat.le_of_ble_eq_true rfl) dX9_cut_38 (fun w38 H locs hM hm => ?_)
    have hp_this : At9 G w38 b (upd states x1.toNatClampNeg 0) (count - 1) (broken - 0) := ⟨hm.1, hm.keep (hp_this.2) (by omega)⟩
    have hF := hF.tr (hm.fr (by omega) (by omega))
    refine lv_aload_n hx hb dX9_cut_41 rfl (lv_at hl 0 rfl) ?_
    refine mm_get hC hM (k := 1) hp_this.1 rfl inAX9 (by decide) q1_54 rfl dX9_cut_42 ?_
    cases hf
    exact hret hM dX9_cut_45 rfl ⟨rfl, hp_this, hF⟩
  · rw [if_pos hcd] at hf
    refine lv_iconst (v := 1) hx hb dX9_cut_15 (by decide) ?_
    refine lv_goto (tgt := 20) hx hb dX9_cut_16 (by decide) ?_
    refine lv_isub hx hb dX9_cut_20 ?_
    refine mm_put hC hM (k := 2) tyX9 hp_this.1 rfl inAX9 tyX9_ok nmX9 (by decide) q1_57 rfl rfl rfl rfl (Nat.le_of_ble_eq_true rfl) dX9_cut_21 (fun w21 H locs hM hm => ?_)
    have hp_this : At9 G w21 b states count (broken - 1) := ⟨hm.1, hm.keep (hp_this.2) (by omega)⟩
    have hF := hF.tr (hm.fr (by omega) (by omega))
    refine lv_aload_n hx hb dX9_cut_24 rfl (lv_at hl 0 rfl) ?_
    refine mm_get hC hM (k := 0) hp_this.1 rfl inAX9 (by decide) q1_53 rfl dX9_cut_25 ?_
    refine lv_iload_n hx hb dX9_cut_28 rfl (lv_at hl 1 rfl) ?_
    refine lv_iconst (v := 0) hx hb dX9_cut_29 (by decide) ?_
    obtain ⟨hg30, hf⟩ := mm_gd hf
    refine mm_iast hC hM (hp_this.2) hg30 dX9_cut_30 (fun w30 H locs hM hm => ?_)
    have hp_this : At9 G w30 b (upd states x1.toNatClampNeg 0) count (broken - 1) := ⟨hm.keep (hp_this.1) (by omega), hm.1⟩
    have hF := hF.tr (hm.fr (by omega) (by omega))
    refine lv_aload_n hx hb dX9_cut_31 rfl (lv_at hl 0 rfl) ?_
    refine lv_dup hx hb dX9_cut_32 rfl ?_
    refine mm_get hC hM (k := 1) hp_this.1 rfl inAX9 (by decide) q1_54 rfl dX9_cut_33 ?_
    refine lv_iconst (v := 1) hx hb dX9_cut_36 (by decide) ?_
    refine lv_isub hx hb dX9_cut_37 ?_
    refine mm_put hC hM (k := 1) tyX9 hp_this.1 rfl inAX9 tyX9_ok nmX9 (by decide) q1_54 rfl rfl rfl rfl (Nat.le_of_ble_eq_true rfl) dX9_cut_38 (fun w38 H locs hM hm => ?_)
    have hp_this : At9 G w38 b (upd states x1.toNatClampNeg 0) (count - 1) (broken - 1) := ⟨hm.1, hm.keep (hp_this.2) (by omega)⟩
    have hF := hF.tr (hm.fr (by omega) (by omega))
    refine lv_aload_n hx hb dX9_cut_41 rfl (lv_at hl 0 rfl) ?_
    refine mm_get hC hM (k := 1) hp_this.1 rfl inAX9 (by decide) q1_54 rfl dX9_cut_42 ?_
    cases hf
    exact hret hM dX9_cut_45 rfl ⟨rfl, hp_this, hF⟩
