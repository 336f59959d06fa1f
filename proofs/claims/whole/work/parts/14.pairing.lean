def f_X7_fillCosts_L12 (p1_cells : Nat → Int32) (p1_count : Int32) (x2 : Int32) : Nat → (Int32) → (Nat → Int32) → Option (Nat → Int32)
  | 0, _, _ => none
  | n + 1, x3, costs => if p1_count ≤ x3 then some costs else (f_X5_costOfPair p1_cells x2 x3).bind fun q33 => mm_g (mm_ck ((x2 * 8) + x3) 64) (f_X7_fillCosts_L12 p1_cells p1_count x2 n (x3 + 1) (upd costs (((x2 * 8) + x3).toNatClampNeg) q33))
def f_X7_fillCosts_L2 (K : Nat) (p1_cells : Nat → Int32) (p1_count : Int32) : Nat → (Int32) → (Nat → Int32) → Option (Nat → Int32)
  | 0, _, _ => none
  | n + 1, x2, costs => if p1_count ≤ x2 then some costs else (f_X7_fillCosts_L12 p1_cells p1_count x2 K 0 costs).bind fun q12 => f_X7_fillCosts_L2 K p1_cells p1_count n (x2 + 1) q12
def f_X7_fillCosts (K : Nat) (costs : Nat → Int32) (p1_cells : Nat → Int32) (p1_count : Int32) : Option (Nat → Int32) := (f_X7_fillCosts_L2 K p1_cells p1_count K 0 costs).bind fun q2 => some q2
set_option maxHeartbeats 4000000 in
set_option maxRecDepth 100000 in
theorem c_X7_fillCosts (l : Launch) {G : mm_G} {K : Nat} {w : va_W} {sz : Nat} {b : Nat} {b1 : Nat} {costs : Nat → Int32} {best : Nat → Int32} {p1_cells : Nat → Int32} {p1_count : Int32} {X : Nat → Int32} (hf : f_X7_fillCosts K costs p1_cells p1_count = some X) (hp_this : At7 G w b costs best) (hp_p1 : At5 G w b1 p1_cells p1_count) (hd0 : b + 3 ≤ b1 ∨ b1 + 2 ≤ b) : Met l yX7_fillCosts (Cond.code yX7_fillCosts cX7_fillCosts 4 none :: gAll) ({ frames := 3, cells := 0, slots := 0, locals := 75 }) (va_Pc [.ref b, .ref b1] (mm_Pre G w sz)) (mm_Qv G w sz (fun w' => At7 G w' b X best ∧ mm_fr w w' b (b + 3))) 0 0 (va_A w sz) := by
  refine mm_headV [.ref b, .ref b1] (by decide +kernel) rfl (Nat.le_of_ble_eq_true rfl) ?_
  intro p e s m args below meth c A Q hsz hC hM hret hnm ls hl
  have hx := hC.1.1
  have hb := hC.1.2.1
  have hl : lv_has ls 4 [(0, .ref b), (1, .ref b1)] := hl
  have hF : mm_fr w w b (b + 3) := mm_fr.rf
  rw [f_X7_fillCosts] at hf
  refine lv_iconst (v := 0) hx hb dX7_fillCosts_0 (by decide) ?_
  refine lv_istore_n (lv' := [(2, .int 0), (0, .ref b), (1, .ref b1)]) hx hb dX7_fillCosts_1 rfl hl (by decide) rfl (fun ls hl => ?_)
  have L2 : ∀ (n : Nat) (L2_x2 : Int32) (L2_costs : Nat → Int32) (X : Nat → Int32), f_X7_fillCosts_L2 K p1_cells p1_count n L2_x2 L2_costs = some X → ∀ (L2_w : va_W) (H : Heap) (locs : List Loc), mm_S G A s.heap L2_w H locs → At7 G L2_w b L2_costs best → At5 G L2_w b1 p1_cells p1_count → mm_fr w L2_w b (b + 3) → ∀ (ls : Array Slot), lv_has ls 4 [(0, .ref b), (1, .ref b1), (2, .int L2_x2)] → (∀ (w9 : va_W) (H : Heap) (locs : List Loc), mm_S G A s.heap w9 H locs → At7 G w9 b X best → At5 G w9 b1 p1_cells p1_count → mm_fr w w9 b (b + 3) → ∀ (ls : Array Slot), lv_has ls 4 [] → W p l e ({ frames := 3, cells := 0, slots := 0, locals := 75 } : Room) s m args below meth c H locs 0 0 Q (F0 m 49 ls [])) → W p l e ({ frames := 3, cells := 0, slots := 0, locals := 75 } : Room) s m args below meth c H locs 0 0 Q (F0 m 2 ls []) := by
    intro n
    induction n with
    | zero => intro L2_x2 L2_costs X hf; cases hf
    | succ n ih =>
      intro L2_x2 L2_costs X hf L2_w H locs hM hp_this hp_p1 hF ls hl hk
      rw [f_X7_fillCosts_L2] at hf
      refine lv_iload_n hx hb dX7_fillCosts_2 rfl (lv_at hl 2 rfl) ?_
      refine lv_aload_n hx hb dX7_fillCosts_3 rfl (lv_at hl 1 rfl) ?_
      refine mm_get hC hM (k := 1) hp_p1.1 rfl inAX5 (by decide) q1_130 rfl dX7_fillCosts_4 ?_
      refine lv_icmp_ge (tgt := 49) hx hb dX7_fillCosts_7 (by decide) (fun hcd => ?_) (fun hcd => ?_)
      · rw [if_pos hcd] at hf
        cases hf
        exact hk _ _ _ hM hp_this hp_p1 hF _ (lv_sub hl [] rfl)
      · rw [if_neg hcd] at hf
        refine lv_iconst (v := 0) hx hb dX7_fillCosts_10 (by decide) ?_
        refine lv_istore_n (lv' := [(3, .int 0), (0, .ref b), (1, .ref b1), (2, .int L2_x2)]) hx hb dX7_fillCosts_11 rfl hl (by decide) rfl (fun ls hl => ?_)
        have L12 : ∀ (n : Nat) (L12_x3 : Int32) (L12_costs : Nat → Int32) (X : Nat → Int32), f_X7_fillCosts_L12 p1_cells p1_count L2_x2 n L12_x3 L12_costs = some X → ∀ (L12_w : va_W) (H : Heap) (locs : List Loc), mm_S G A s.heap L12_w H locs → At7 G L12_w b L12_costs best → At5 G L12_w b1 p1_cells p1_count → mm_fr w L12_w b (b + 3) → ∀ (ls : Array Slot), lv_has ls 4 [(0, .ref b), (1, .ref b1), (2, .int L2_x2), (3, .int L12_x3)] → (∀ (w9 : va_W) (H : Heap) (locs : List Loc), mm_S G A s.heap w9 H locs → At7 G w9 b X best → At5 G w9 b1 p1_cells p1_count → mm_fr w w9 b (b + 3) → ∀ (ls : Array Slot), lv_has ls 4 [(0, .ref b), (1, .ref b1), (2, .int L2_x2)] → W p l e ({ frames := 3, cells := 0, slots := 0, locals := 75 } : Room) s m args below meth c H locs 0 0 Q (F0 m 43 ls [])) → W p l e ({ frames := 3, cells := 0, slots := 0, locals := 75 } : Room) s m args below meth c H locs 0 0 Q (F0 m 12 ls []) := by
          intro n
          induction n with
          | zero => intro L12_x3 L12_costs X hf; cases hf
          | succ n ih =>
            intro L12_x3 L12_costs X hf L12_w H locs hM hp_this hp_p1 hF ls hl hk
            rw [f_X7_fillCosts_L12] at hf
            refine lv_iload_n hx hb dX7_fillCosts_12 rfl (lv_at hl 3 rfl) ?_
            refine lv_aload_n hx hb dX7_fillCosts_13 rfl (lv_at hl 1 rfl) ?_
            refine mm_get hC hM (k := 1) hp_p1.1 rfl inAX5 (by decide) q1_130 rfl dX7_fillCosts_14 ?_
            refine lv_icmp_ge (tgt := 43) hx hb dX7_fillCosts_17 (by decide) (fun hcd => ?_) (fun hcd => ?_)
            · rw [if_pos hcd] at hf
              cases hf
              exact hk _ _ _ hM hp_this hp_p1 hF _ (lv_sub hl [0, 1, 2] rfl)
            · rw [if_neg hcd] at hf
              refine lv_aload_n hx hb dX7_fillCosts_20 rfl (lv_at hl 0 rfl) ?_
              refine mm_get hC hM (k := 0) hp_this.1 rfl inAX7 (by decide) q1_214 rfl dX7_fillCosts_21 ?_
              refine lv_iload_n hx hb dX7_fillCosts_24 rfl (lv_at hl 2 rfl) ?_
              refine lv_bipush (v := 8) hx hb dX7_fillCosts_25 (by decide) ?_
              refine lv_imul hx hb dX7_fillCosts_27 ?_
              refine lv_iload_n hx hb dX7_fillCosts_28 rfl (lv_at hl 3 rfl) ?_
              refine lv_iadd hx hb dX7_fillCosts_29 ?_
              refine lv_aload_n hx hb dX7_fillCosts_30 rfl (lv_at hl 1 rfl) ?_
              refine lv_iload_n hx hb dX7_fillCosts_31 rfl (lv_at hl 2 rfl) ?_
              refine lv_iload_n hx hb dX7_fillCosts_32 rfl (lv_at hl 3 rfl) ?_
              obtain ⟨q33, hq33, hf⟩ := mm_bd hf
              refine mm_Vi (rest := [.int ((L2_x2 * 8) + L12_x3), .ref (b + 1)]) hC hM (c_X5_costOfPair l hq33 hp_p1) q3_14 q1_6 ykX5_costOfPair q3_11 q3_12 q3_13 hp_p1.1 rfl ⟨rfl, rfl⟩ ⟨Nat.le_of_ble_eq_true rfl, Nat.le_of_ble_eq_true rfl⟩ rfl hl.1 rfl (Nat.le_of_ble_eq_true rfl) dX7_fillCosts_33 ⟨Nat.le_of_ble_eq_true rfl, Nat.le_of_ble_eq_true rfl⟩ (fun r w33 H locs hM hw => ?_)
              obtain ⟨hr, hw⟩ := hw
              rw [hr]
              rw [hw] at hM
              obtain ⟨hg36, hf⟩ := mm_gd hf
              refine mm_iast hC hM (hp_this.2.1) hg36 dX7_fillCosts_36 (fun w36 H locs hM hm => ?_)
              have hp_this : At7 G w36 b (upd L12_costs (((L2_x2 * 8) + L12_x3).toNatClampNeg) q33) best := ⟨hm.keep (hp_this.1) (by omega), hm.1, hm.keep (hp_this.2.2) (by omega)⟩
              have hp_p1 := hp_p1.up hm (by omega)
              have hF := hF.tr (hm.fr (by omega) (by omega))
              refine lv_iinc (v := (L12_x3 + 1)) (lv' := [(3, .int (L12_x3 + 1)), (0, .ref b), (1, .ref b1), (2, .int L2_x2)]) hx hb dX7_fillCosts_37 hl (k := 3) rfl rfl (by decide) rfl (fun ls hl => ?_)
              refine lv_goto (tgt := 12) hx hb dX7_fillCosts_40 (by decide) ?_
              exact ih _ _ _ hf _ _ _ hM hp_this hp_p1 hF _ (lv_sub hl [1, 2, 3, 0] rfl) hk
        obtain ⟨q12, hq12, hf⟩ := mm_bd hf
        refine L12 K _ _ _ hq12 _ _ _ hM hp_this hp_p1 hF _ (lv_sub hl [1, 2, 3, 0] rfl) (fun w12 H locs hM hp_this hp_p1 hF ls hl => ?_)
        refine lv_iinc (v := (L2_x2 + 1)) (lv' := [(2, .int (L2_x2 + 1)), (0, .ref b), (1, .ref b1)]) hx hb dX7_fillCosts_43 hl (k := 2) rfl rfl (by decide) rfl (fun ls hl => ?_)
        refine lv_goto (tgt := 2) hx hb dX7_fillCosts_46 (by decide) ?_
        exact ih _ _ _ hf _ _ _ hM hp_this hp_p1 hF _ (lv_sub hl [1, 2, 0] rfl) hk
  obtain ⟨q2, hq2, hf⟩ := mm_bd hf
  refine L2 K _ _ _ hq2 _ _ _ hM hp_this hp_p1 hF _ (lv_sub hl [1, 2, 0] rfl) (fun w2 H locs hM hp_this hp_p1 hF ls hl => ?_)
  cases hf
  exact hret hM dX7_fillCosts_49 ⟨hp_this, hF⟩
def f_X7_allOf (x0 : Int32) : Option (Int32) := some (((1 : Int32) <<< (x0 &&& 31)) - 1)
set_option maxHeartbeats 4000000 in
set_option maxRecDepth 100000 in
theorem c_X7_allOf (l : Launch) {G : mm_G} {w : va_W} {sz : Nat} {x0 : Int32} {X : Int32} (hf : f_X7_allOf x0 = some X) : Met l yX7_allOf (Cond.code yX7_allOf cX7_allOf 1 (some .int) :: gAll) ({ frames := 0, cells := 0, slots := 0, locals := 0 }) (va_Pc [.int x0] (mm_Pre G w sz)) (mm_Qi G w sz (fun r w' => r = X ∧ w' = w)) 0 0 (va_A w sz) := by
  refine mm_headI [.int x0] (by decide +kernel) rfl (Nat.le_of_ble_eq_true rfl) ?_
  intro p e s m args below meth c A Q hsz hC hM hret ls hl
  have hx := hC.1.1
  have hb := hC.1.2.1
  have hl : lv_has ls 1 [(0, .int x0)] := hl
  rw [f_X7_allOf] at hf
  refine lv_iconst (v := 1) hx hb dX7_allOf_0 (by decide) ?_
  refine lv_iload_n hx hb dX7_allOf_1 rfl (lv_at hl 0 rfl) ?_
  refine lv_ishl hx hb dX7_allOf_2 ?_
  refine lv_iconst (v := 1) hx hb dX7_allOf_3 (by decide) ?_
  refine lv_isub hx hb dX7_allOf_4 ?_
  cases hf
  exact hret hM dX7_allOf_5 rfl ⟨rfl, rfl⟩
def f_X7_holds (x0 : Int32) (x1 : Int32) : Option (Int32) := if (x0 &&& ((1 : Int32) <<< (x1 &&& 31))) = 0 then some 0 else some 1
set_option maxHeartbeats 4000000 in
set_option maxRecDepth 100000 in
theorem c_X7_holds (l : Launch) {G : mm_G} {w : va_W} {sz : Nat} {x0 : Int32} {x1 : Int32} {X : Int32} (hf : f_X7_holds x0 x1 = some X) : Met l yX7_holds (Cond.code yX7_holds cX7_holds 2 (some .boolean) :: gAll) ({ frames := 0, cells := 0, slots := 0, locals := 0 }) (va_Pc [.int x0, .int x1] (mm_Pre G w sz)) (mm_Qi G w sz (fun r w' => r = X ∧ w' = w)) 0 0 (va_A w sz) := by
  refine mm_headI [.int x0, .int x1] (by decide +kernel) rfl (Nat.le_of_ble_eq_true rfl) ?_
  intro p e s m args below meth c A Q hsz hC hM hret ls hl
  have hx := hC.1.1
  have hb := hC.1.2.1
  have hl : lv_has ls 2 [(0, .int x0), (1, .int x1)] := hl
  rw [f_X7_holds] at hf
  refine lv_iload_n hx hb dX7_holds_0 rfl (lv_at hl 0 rfl) ?_
  refine lv_iconst (v := 1) hx hb dX7_holds_1 (by decide) ?_
  refine lv_iload_n hx hb dX7_holds_2 rfl (lv_at hl 1 rfl) ?_
  refine lv_ishl hx hb dX7_holds_3 ?_
  refine lv_iand hx hb dX7_holds_4 ?_
  refine lv_if_eq (tgt := 12) hx hb dX7_holds_5 (by decide) (fun hcd => ?_) (fun hcd => ?_)
  · rw [if_pos hcd] at hf
    refine lv_iconst (v := 0) hx hb dX7_holds_12 (by decide) ?_
    cases hf
    exact hret hM dX7_holds_13 rfl ⟨rfl, rfl⟩
  · rw [if_neg hcd] at hf
    refine lv_iconst (v := 1) hx hb dX7_holds_8 (by decide) ?_
    refine lv_goto (tgt := 13) hx hb dX7_holds_9 (by decide) ?_
    cases hf
    exact hret hM dX7_holds_13 rfl ⟨rfl, rfl⟩
def f_X7_firstOf_L2 (x0 : Int32) : Nat → (Int32) → Option (Int32)
  | 0, _ => none
  | n + 1, x1 => if 7 ≤ x1 then some 7 else (f_X7_holds x0 x1).bind fun q10 => if q10 = 0 then f_X7_firstOf_L2 x0 n (x1 + 1) else some x1
def f_X7_firstOf (K : Nat) (x0 : Int32) : Option (Int32) := f_X7_firstOf_L2 x0 K 0
set_option maxHeartbeats 4000000 in
set_option maxRecDepth 100000 in
theorem c_X7_firstOf (l : Launch) {G : mm_G} {K : Nat} {w : va_W} {sz : Nat} {x0 : Int32} {X : Int32} (hf : f_X7_firstOf K x0 = some X) : Met l yX7_firstOf (Cond.code yX7_firstOf cX7_firstOf 2 (some .int) :: gAll) ({ frames := 1, cells := 0, slots := 0, locals := 21 }) (va_Pc [.int x0] (mm_Pre G w sz)) (mm_Qi G w sz (fun r w' => r = X ∧ w' = w)) 0 0 (va_A w sz) := by
  refine mm_headI [.int x0] (by decide +kernel) rfl (Nat.le_of_ble_eq_true rfl) ?_
  intro p e s m args below meth c A Q hsz hC hM hret ls hl
  have hx := hC.1.1
  have hb := hC.1.2.1
  have hl : lv_has ls 2 [(0, .int x0)] := hl
  rw [f_X7_firstOf] at hf
  refine lv_iconst (v := 0) hx hb dX7_firstOf_0 (by decide) ?_
  refine lv_istore_n (lv' := [(1, .int 0), (0, .int x0)]) hx hb dX7_firstOf_1 rfl hl (by decide) rfl (fun ls hl => ?_)
  have L2 : ∀ (n : Nat) (L2_x1 : Int32), f_X7_firstOf_L2 x0 n L2_x1 = some X → ∀ (H : Heap) (locs : List Loc), mm_S G A s.heap w H locs → ∀ (ls : Array Slot), lv_has ls 2 [(0, .int x0), (1, .int L2_x1)] → W p l e ({ frames := 1, cells := 0, slots := 0, locals := 21 } : Room) s m args below meth c H locs 0 0 Q (F0 m 2 ls []) := by
    intro n
    induction n with
    | zero => intro L2_x1 hf; cases hf
    | succ n ih =>
      intro L2_x1 hf H locs hM ls hl
      rw [f_X7_firstOf_L2] at hf
      refine lv_iload_n hx hb dX7_firstOf_2 rfl (lv_at hl 1 rfl) ?_
      refine lv_bipush (v := 7) hx hb dX7_firstOf_3 (by decide) ?_
      refine lv_icmp_ge (tgt := 24) hx hb dX7_firstOf_5 (by decide) (fun hcd => ?_) (fun hcd => ?_)
      · rw [if_pos hcd] at hf
        refine lv_bipush (v := 7) hx hb dX7_firstOf_24 (by decide) ?_
        cases hf
        exact hret hM dX7_firstOf_26 rfl ⟨rfl, rfl⟩
      · rw [if_neg hcd] at hf
        refine lv_iload_n hx hb dX7_firstOf_8 rfl (lv_at hl 0 rfl) ?_
        refine lv_iload_n hx hb dX7_firstOf_9 rfl (lv_at hl 1 rfl) ?_
        obtain ⟨q10, hq10, hf⟩ := mm_bd hf
        refine mm_Si (rest := []) hC hM (c_X7_holds l hq10) q3_41 q1_9 ykX7_holds q3_39 q3_40 ⟨rfl, rfl⟩ ⟨Nat.le_of_ble_eq_true rfl, Nat.le_of_ble_eq_true rfl⟩ rfl hl.1 rfl (Nat.le_of_ble_eq_true rfl) dX7_firstOf_10 ⟨Nat.le_of_ble_eq_true rfl, Nat.le_of_ble_eq_true rfl⟩ (fun r w10 H locs hM hw => ?_)
        obtain ⟨hr, hw⟩ := hw
        rw [hr]
        rw [hw] at hM
        refine lv_if_eq (tgt := 18) hx hb dX7_firstOf_13 (by decide) (fun hcd => ?_) (fun hcd => ?_)
        · rw [if_pos hcd] at hf
          refine lv_iinc (v := (L2_x1 + 1)) (lv' := [(1, .int (L2_x1 + 1)), (0, .int x0)]) hx hb dX7_firstOf_18 hl (k := 1) rfl rfl (by decide) rfl (fun ls hl => ?_)
          refine lv_goto (tgt := 2) hx hb dX7_firstOf_21 (by decide) ?_
          exact ih _ hf _ _ hM _ (lv_sub hl [1, 0] rfl)
        · rw [if_neg hcd] at hf
          refine lv_iload_n hx hb dX7_firstOf_16 rfl (lv_at hl 1 rfl) ?_
          cases hf
          exact hret hM dX7_firstOf_17 rfl ⟨rfl, rfl⟩
  exact L2 K _ hf _ _ hM _ (lv_sub hl [1, 0] rfl)
def f_X7_without (x0 : Int32) (x1 : Int32) (x2 : Int32) : Option (Int32) := some ((x0 &&& (((1 : Int32) <<< (x1 &&& 31)) ^^^ (-1))) &&& (((1 : Int32) <<< (x2 &&& 31)) ^^^ (-1)))
set_option maxHeartbeats 4000000 in
set_option maxRecDepth 100000 in
theorem c_X7_without (l : Launch) {G : mm_G} {w : va_W} {sz : Nat} {x0 : Int32} {x1 : Int32} {x2 : Int32} {X : Int32} (hf : f_X7_without x0 x1 x2 = some X) : Met l yX7_without (Cond.code yX7_without cX7_without 3 (some .int) :: gAll) ({ frames := 0, cells := 0, slots := 0, locals := 0 }) (va_Pc [.int x0, .int x1, .int x2] (mm_Pre G w sz)) (mm_Qi G w sz (fun r w' => r = X ∧ w' = w)) 0 0 (va_A w sz) := by
  refine mm_headI [.int x0, .int x1, .int x2] (by decide +kernel) rfl (Nat.le_of_ble_eq_true rfl) ?_
  intro p e s m args below meth c A Q hsz hC hM hret ls hl
  have hx := hC.1.1
  have hb := hC.1.2.1
  have hl : lv_has ls 3 [(0, .int x0), (1, .int x1), (2, .int x2)] := hl
  rw [f_X7_without] at hf
  refine lv_iload_n hx hb dX7_without_0 rfl (lv_at hl 0 rfl) ?_
  refine lv_iconst (v := 1) hx hb dX7_without_1 (by decide) ?_
  refine lv_iload_n hx hb dX7_without_2 rfl (lv_at hl 1 rfl) ?_
  refine lv_ishl hx hb dX7_without_3 ?_
  refine lv_iconst (v := (-1)) hx hb dX7_without_4 (by decide) ?_
  refine lv_ixor hx hb dX7_without_5 ?_
  refine lv_iand hx hb dX7_without_6 ?_
  refine lv_iconst (v := 1) hx hb dX7_without_7 (by decide) ?_
  refine lv_iload_n hx hb dX7_without_8 rfl (lv_at hl 2 rfl) ?_
  refine lv_ishl hx hb dX7_without_9 ?_
  refine lv_iconst (v := (-1)) hx hb dX7_without_10 (by decide) ?_
  refine lv_ixor hx hb dX7_without_11 ?_
  refine lv_iand hx hb dX7_without_12 ?_
  cases hf
  exact hret hM dX7_without_13 rfl ⟨rfl, rfl⟩
def f_X7_costOfChoice (costs : Nat → Int32) (best : Nat → Int32) (x1 : Int32) (x2 : Int32) (x3 : Int32) : Option (Int32) := mm_g (mm_ck ((x2 * 8) + x3) 64) ((f_X7_without x1 x2 x3).bind fun q18 => mm_g (mm_ck q18 256) (some ((costs ((x2 * 8) + x3).toNatClampNeg) + (best q18.toNatClampNeg))))
set_option maxHeartbeats 4000000 in
set_option maxRecDepth 100000 in
theorem c_X7_costOfChoice (l : Launch) {G : mm_G} {w : va_W} {sz : Nat} {b : Nat} {costs : Nat → Int32} {best : Nat → Int32} {x1 : Int32} {x2 : Int32} {x3 : Int32} {X : Int32} (hf : f_X7_costOfChoice costs best x1 x2 x3 = some X) (hp_this : At7 G w b costs best) : Met l yX7_costOfChoice (Cond.code yX7_costOfChoice cX7_costOfChoice 4 (some .int) :: gAll) ({ frames := 1, cells := 0, slots := 0, locals := 22 }) (va_Pc [.ref b, .int x1, .int x2, .int x3] (mm_Pre G w sz)) (mm_Qi G w sz (fun r w' => r = X ∧ w' = w)) 0 0 (va_A w sz) := by
  refine mm_headI [.ref b, .int x1, .int x2, .int x3] (by decide +kernel) rfl (Nat.le_of_ble_eq_true rfl) ?_
  intro p e s m args below meth c A Q hsz hC hM hret ls hl
  have hx := hC.1.1
  have hb := hC.1.2.1
  have hl : lv_has ls 4 [(0, .ref b), (1, .int x1), (2, .int x2), (3, .int x3)] := hl
  rw [f_X7_costOfChoice] at hf
  refine lv_aload_n hx hb dX7_costOfChoice_0 rfl (lv_at hl 0 rfl) ?_
  refine mm_get hC hM (k := 0) hp_this.1 rfl inAX7 (by decide) q1_214 rfl dX7_costOfChoice_1 ?_
  refine lv_iload_n hx hb dX7_costOfChoice_4 rfl (lv_at hl 2 rfl) ?_
  refine lv_bipush (v := 8) hx hb dX7_costOfChoice_5 (by decide) ?_
  refine lv_imul hx hb dX7_costOfChoice_7 ?_
  refine lv_iload_n hx hb dX7_costOfChoice_8 rfl (lv_at hl 3 rfl) ?_
  refine lv_iadd hx hb dX7_costOfChoice_9 ?_
  obtain ⟨hg10, hf⟩ := mm_gd hf
  refine mm_iald hC hM (hp_this.2.1) hg10 dX7_costOfChoice_10 ?_
  refine lv_aload_n hx hb dX7_costOfChoice_11 rfl (lv_at hl 0 rfl) ?_
  refine mm_get hC hM (k := 1) hp_this.1 rfl inAX7 (by decide) q1_215 rfl dX7_costOfChoice_12 ?_
  refine lv_iload_n hx hb dX7_costOfChoice_15 rfl (lv_at hl 1 rfl) ?_
  refine lv_iload_n hx hb dX7_costOfChoice_16 rfl (lv_at hl 2 rfl) ?_
  refine lv_iload_n hx hb dX7_costOfChoice_17 rfl (lv_at hl 3 rfl) ?_
  obtain ⟨q18, hq18, hf⟩ := mm_bd hf
  refine mm_Si (rest := [.ref (b + 2), .int (costs ((x2 * 8) + x3).toNatClampNeg)]) hC hM (c_X7_without l hq18) q3_49 q1_9 ykX7_without q3_47 q3_48 ⟨rfl, rfl⟩ ⟨Nat.le_of_ble_eq_true rfl, Nat.le_of_ble_eq_true rfl⟩ rfl hl.1 rfl (Nat.le_of_ble_eq_true rfl) dX7_costOfChoice_18 ⟨Nat.le_of_ble_eq_true rfl, Nat.le_of_ble_eq_true rfl⟩ (fun r w18 H locs hM hw => ?_)
  obtain ⟨hr, hw⟩ := hw
  rw [hr]
  rw [hw] at hM
  obtain ⟨hg21, hf⟩ := mm_gd hf
  refine mm_iald hC hM (hp_this.2.2) hg21 dX7_costOfChoice_21 ?_
  refine lv_iadd hx hb dX7_costOfChoice_22 ?_
  cases hf
  exact hret hM dX7_costOfChoice_23 rfl ⟨rfl, rfl⟩
def f_X7_fillTable_L31 (costs : Nat → Int32) (best : Nat → Int32) (x1 : Int32) (x2 : Int32) (x3 : Int32) : Nat → (Int32) → (Int32) → Option (Int32)
  | 0, _, _ => none
  | n + 1, x4, x5 => if x1 ≤ x5 then some x4 else (f_X7_holds x2 x5).bind fun q40 => if q40 = 0 then f_X7_fillTable_L31 costs best x1 x2 x3 n x4 (x5 + 1) else (f_X7_costOfChoice costs best x2 x3 x5).bind fun q53 => f_X7_fillTable_L31 costs best x1 x2 x3 n (if q53 < x4 then q53 else x4) (x5 + 1)
def f_X7_fillTable_L9 (K : Nat) (costs : Nat → Int32) (x1 : Int32) : Nat → (Int32) → (Nat → Int32) → Option (Nat → Int32)
  | 0, _, _ => none
  | n + 1, x2, best => (f_X7_allOf x1).bind fun q11 => if q11 < x2 then some best else (f_X7_firstOf K x2).bind fun q18 => (f_X7_fillTable_L31 costs best x1 x2 q18 K 1000000 (q18 + 1)).bind fun q31 => mm_g (mm_ck x2 256) (f_X7_fillTable_L9 K costs x1 n (x2 + 1) (upd best x2.toNatClampNeg q31))
def f_X7_fillTable (K : Nat) (costs : Nat → Int32) (best : Nat → Int32) (x1 : Int32) : Option (Nat → Int32) := (f_X7_fillTable_L9 K costs x1 K 1 (upd best 0 0)).bind fun q9 => some q9
set_option maxHeartbeats 4000000 in
set_option maxRecDepth 100000 in
theorem c_X7_fillTable (l : Launch) {G : mm_G} {K : Nat} {w : va_W} {sz : Nat} {b : Nat} {costs : Nat → Int32} {best : Nat → Int32} {x1 : Int32} {X : Nat → Int32} (hf : f_X7_fillTable K costs best x1 = some X) (hp_this : At7 G w b costs best) : Met l yX7_fillTable (Cond.code yX7_fillTable cX7_fillTable 6 none :: gAll) ({ frames := 2, cells := 0, slots := 0, locals := 45 }) (va_Pc [.ref b, .int x1] (mm_Pre G w sz)) (mm_Qv G w sz (fun w' => At7 G w' b costs X ∧ mm_fr w w' b (b + 3))) 0 0 (va_A w sz) := by
  refine mm_headV [.ref b, .int x1] (by decide +kernel) rfl (Nat.le_of_ble_eq_true rfl) ?_
  intro p e s m args below meth c A Q hsz hC hM hret hnm ls hl
  have hx := hC.1.1
  have hb := hC.1.2.1
  have hl : lv_has ls 6 [(0, .ref b), (1, .int x1)] := hl
  have hF : mm_fr w w b (b + 3) := mm_fr.rf
  rw [f_X7_fillTable] at hf
  refine lv_aload_n hx hb dX7_fillTable_0 rfl (lv_at hl 0 rfl) ?_
  refine mm_get hC hM (k := 1) hp_this.1 rfl inAX7 (by decide) q1_215 rfl dX7_fillTable_1 ?_
  refine lv_iconst (v := 0) hx hb dX7_fillTable_4 (by decide) ?_
  refine lv_iconst (v := 0) hx hb dX7_fillTable_5 (by decide) ?_
  refine mm_iastN (N := 0) hC hM (hp_this.2.2) (by decide) (by unfold vp_in; decide) dX7_fillTable_6 (fun w6 H locs hM hm => ?_)
  have hp_this : At7 G w6 b costs (upd best 0 0) := ⟨hm.keep (hp_this.1) (by omega), hm.keep (hp_this.2.1) (by omega), hm.1⟩
  have hF := hF.tr (hm.fr (by omega) (by omega))
  refine lv_iconst (v := 1) hx hb dX7_fillTable_7 (by decide) ?_
  refine lv_istore_n (lv' := [(2, .int 1), (0, .ref b), (1, .int x1)]) hx hb dX7_fillTable_8 rfl hl (by decide) rfl (fun ls hl => ?_)
  have L9 : ∀ (n : Nat) (L9_x2 : Int32) (L9_best : Nat → Int32) (X : Nat → Int32), f_X7_fillTable_L9 K costs x1 n L9_x2 L9_best = some X → ∀ (L9_w : va_W) (H : Heap) (locs : List Loc), mm_S G A s.heap L9_w H locs → At7 G L9_w b costs L9_best → mm_fr w L9_w b (b + 3) → ∀ (ls : Array Slot), lv_has ls 6 [(0, .ref b), (1, .int x1), (2, .int L9_x2)] → (∀ (w9 : va_W) (H : Heap) (locs : List Loc), mm_S G A s.heap w9 H locs → At7 G w9 b costs X → mm_fr w w9 b (b + 3) → ∀ (ls : Array Slot), lv_has ls 6 [] → W p l e ({ frames := 2, cells := 0, slots := 0, locals := 45 } : Room) s m args below meth c H locs 0 0 Q (F0 m 81 ls [])) → W p l e ({ frames := 2, cells := 0, slots := 0, locals := 45 } : Room) s m args below meth c H locs 0 0 Q (F0 m 9 ls []) := by
    intro n
    induction n with
    | zero => intro L9_x2 L9_best X hf; cases hf
    | succ n ih =>
      intro L9_x2 L9_best X hf L9_w H locs hM hp_this hF ls hl hk
      rw [f_X7_fillTable_L9] at hf
      refine lv_iload_n hx hb dX7_fillTable_9 rfl (lv_at hl 2 rfl) ?_
      refine lv_iload_n hx hb dX7_fillTable_10 rfl (lv_at hl 1 rfl) ?_
      obtain ⟨q11, hq11, hf⟩ := mm_bd hf
      refine mm_Si (rest := [.int L9_x2]) hC hM (c_X7_allOf l hq11) q3_35 q1_9 ykX7_allOf q3_33 q3_34 ⟨rfl, rfl⟩ ⟨Nat.le_of_ble_eq_true rfl, Nat.le_of_ble_eq_true rfl⟩ rfl hl.1 rfl (Nat.le_of_ble_eq_true rfl) dX7_fillTable_11 ⟨Nat.le_of_ble_eq_true rfl, Nat.le_of_ble_eq_true rfl⟩ (fun r w11 H locs hM hw => ?_)
      obtain ⟨hr, hw⟩ := hw
      rw [hr]
      rw [hw] at hM
      refine lv_icmp_gt (tgt := 81) hx hb dX7_fillTable_14 (by decide) (fun hcd => ?_) (fun hcd => ?_)
      · rw [if_pos hcd] at hf
        cases hf
        exact hk _ _ _ hM hp_this hF _ (lv_sub hl [] rfl)
      · rw [if_neg hcd] at hf
        refine lv_iload_n hx hb dX7_fillTable_17 rfl (lv_at hl 2 rfl) ?_
        obtain ⟨q18, hq18, hf⟩ := mm_bd hf
        refine mm_Si (rest := []) hC hM (c_X7_firstOf l hq18) q3_38 q1_9 ykX7_firstOf q3_36 q3_37 ⟨rfl, rfl⟩ ⟨Nat.le_of_ble_eq_true rfl, Nat.le_of_ble_eq_true rfl⟩ rfl hl.1 rfl (Nat.le_of_ble_eq_true rfl) dX7_fillTable_18 ⟨Nat.le_of_ble_eq_true rfl, Nat.le_of_ble_eq_true rfl⟩ (fun r w18 H locs hM hw => ?_)
        obtain ⟨hr, hw⟩ := hw
        rw [hr]
        rw [hw] at hM
        refine lv_istore_n (lv' := [(3, .int q18), (0, .ref b), (1, .int x1), (2, .int L9_x2)]) hx hb dX7_fillTable_21 rfl hl (by decide) rfl (fun ls hl => ?_)
        refine lv_ldc hx hb hC.1.2.2.2.1 (hC.1.2.2.2.2 _ q3_42) dX7_fillTable_22 ?_
        refine lv_istore (lv' := [(4, .int 1000000), (3, .int q18), (0, .ref b), (1, .int x1), (2, .int L9_x2)]) hx hb dX7_fillTable_24 hl (by decide) rfl (fun ls hl => ?_)
        refine lv_iload_n hx hb dX7_fillTable_26 rfl (lv_at hl 1 rfl) ?_
        refine lv_iconst (v := 1) hx hb dX7_fillTable_27 (by decide) ?_
        refine lv_iadd hx hb dX7_fillTable_28 ?_
        refine lv_istore (lv' := [(5, .int (q18 + 1)), (4, .int 1000000), (3, .int q18), (0, .ref b), (1, .int x1), (2, .int L9_x2)]) hx hb dX7_fillTable_29 hl (by decide) rfl (fun ls hl => ?_)
        have L31 : ∀ (n : Nat) (L31_x4 : Int32) (L31_x5 : Int32) (X : Int32), f_X7_fillTable_L31 costs L9_best x1 L9_x2 q18 n L31_x4 L31_x5 = some X → ∀ (H : Heap) (locs : List Loc), mm_S G A s.heap L9_w H locs → ∀ (ls : Array Slot), lv_has ls 6 [(0, .ref b), (1, .int x1), (2, .int L9_x2), (3, .int q18), (4, .int L31_x4), (5, .int L31_x5)] → (∀ (H : Heap) (locs : List Loc), mm_S G A s.heap L9_w H locs → ∀ (ls : Array Slot), lv_has ls 6 [(0, .ref b), (1, .int x1), (2, .int L9_x2), (4, .int X)] → W p l e ({ frames := 2, cells := 0, slots := 0, locals := 45 } : Room) s m args below meth c H locs 0 0 Q (F0 m 67 ls [])) → W p l e ({ frames := 2, cells := 0, slots := 0, locals := 45 } : Room) s m args below meth c H locs 0 0 Q (F0 m 31 ls []) := by
          intro n
          induction n with
          | zero => intro L31_x4 L31_x5 X hf; cases hf
          | succ n ih =>
            intro L31_x4 L31_x5 X hf H locs hM ls hl hk
            rw [f_X7_fillTable_L31] at hf
            refine lv_iload hx hb dX7_fillTable_31 (lv_at hl 5 rfl) ?_
            refine lv_iload_n hx hb dX7_fillTable_33 rfl (lv_at hl 1 rfl) ?_
            refine lv_icmp_ge (tgt := 67) hx hb dX7_fillTable_34 (by decide) (fun hcd => ?_) (fun hcd => ?_)
            · rw [if_pos hcd] at hf
              cases hf
              exact hk _ _ hM _ (lv_sub hl [0, 1, 2, 4] rfl)
            · rw [if_neg hcd] at hf
              refine lv_iload_n hx hb dX7_fillTable_37 rfl (lv_at hl 2 rfl) ?_
              refine lv_iload hx hb dX7_fillTable_38 (lv_at hl 5 rfl) ?_
              obtain ⟨q40, hq40, hf⟩ := mm_bd hf
              refine mm_Si (rest := []) hC hM (c_X7_holds l hq40) q3_41 q1_9 ykX7_holds q3_39 q3_40 ⟨rfl, rfl⟩ ⟨Nat.le_of_ble_eq_true rfl, Nat.le_of_ble_eq_true rfl⟩ rfl hl.1 rfl (Nat.le_of_ble_eq_true rfl) dX7_fillTable_40 ⟨Nat.le_of_ble_eq_true rfl, Nat.le_of_ble_eq_true rfl⟩ (fun r w40 H locs hM hw => ?_)
              obtain ⟨hr, hw⟩ := hw
              rw [hr]
              rw [hw] at hM
              refine lv_if_eq (tgt := 61) hx hb dX7_fillTable_43 (by decide) (fun hcd => ?_) (fun hcd => ?_)
              · rw [if_pos hcd] at hf
                refine lv_iinc (v := (L31_x5 + 1)) (lv' := [(5, .int (L31_x5 + 1)), (0, .ref b), (1, .int x1), (2, .int L9_x2), (3, .int q18), (4, .int L31_x4)]) hx hb dX7_fillTable_61 hl (k := 5) rfl rfl (by decide) rfl (fun ls hl => ?_)
                refine lv_goto (tgt := 31) hx hb dX7_fillTable_64 (by decide) ?_
                exact ih _ _ _ hf _ _ hM _ (lv_sub hl [1, 2, 3, 4, 5, 0] rfl) hk
              · rw [if_neg hcd] at hf
                refine lv_iload hx hb dX7_fillTable_46 (lv_at hl 4 rfl) ?_
                refine lv_aload_n hx hb dX7_fillTable_48 rfl (lv_at hl 0 rfl) ?_
                refine lv_iload_n hx hb dX7_fillTable_49 rfl (lv_at hl 2 rfl) ?_
                refine lv_iload_n hx hb dX7_fillTable_50 rfl (lv_at hl 3 rfl) ?_
                refine lv_iload hx hb dX7_fillTable_51 (lv_at hl 5 rfl) ?_
                obtain ⟨q53, hq53, hf⟩ := mm_bd hf
                refine mm_Vi (rest := [.int L31_x4]) hC hM (c_X7_costOfChoice l hq53 hp_this) q3_46 q1_9 ykX7_costOfChoice q3_43 q3_45 qp_6d152ed2 hp_this.1 rfl ⟨rfl, rfl⟩ ⟨Nat.le_of_ble_eq_true rfl, Nat.le_of_ble_eq_true rfl⟩ rfl hl.1 rfl (Nat.le_of_ble_eq_true rfl) dX7_fillTable_53 ⟨Nat.le_of_ble_eq_true rfl, Nat.le_of_ble_eq_true rfl⟩ (fun r w53 H locs hM hw => ?_)
                obtain ⟨hr, hw⟩ := hw
                rw [hr]
                rw [hw] at hM
                refine va_mmin hx hb (hC.1.2.2.1.trans hl.1.symm) hC.1.2.2.2.1 (hC.1.2.2.2.2 _ q3_50) (hC.1.2.2.2.2 _ q3_27) (hC.1.2.2.2.2 _ q1_24) (hC.1.2.2.2.2 _ q3_28) (Nat.le_of_ble_eq_true rfl) (Nat.le_of_ble_eq_true rfl) (Nat.le_of_ble_eq_true rfl) (Nat.le_of_ble_eq_true rfl) dX7_fillTable_56 ?_
                refine lv_istore (lv' := [(4, .int (if q53 < L31_x4 then q53 else L31_x4)), (0, .ref b), (1, .int x1), (2, .int L9_x2), (3, .int q18), (5, .int L31_x5)]) hx hb dX7_fillTable_59 hl (by decide) rfl (fun ls hl => ?_)
                refine lv_iinc (v := (L31_x5 + 1)) (lv' := [(5, .int (L31_x5 + 1)), (4, .int (if q53 < L31_x4 then q53 else L31_x4)), (0, .ref b), (1, .int x1), (2, .int L9_x2), (3, .int q18)]) hx hb dX7_fillTable_61 hl (k := 5) rfl rfl (by decide) rfl (fun ls hl => ?_)
                refine lv_goto (tgt := 31) hx hb dX7_fillTable_64 (by decide) ?_
                exact ih _ _ _ hf _ _ hM _ (lv_sub hl [2, 3, 4, 5, 1, 0] rfl) hk
        obtain ⟨q31, hq31, hf⟩ := mm_bd hf
        refine L31 K _ _ _ hq31 _ _ hM _ (lv_sub hl [3, 4, 5, 2, 1, 0] rfl) (fun H locs hM ls hl => ?_)
        refine lv_aload_n hx hb dX7_fillTable_67 rfl (lv_at hl 0 rfl) ?_
        refine mm_get hC hM (k := 1) hp_this.1 rfl inAX7 (by decide) q1_215 rfl dX7_fillTable_68 ?_
        refine lv_iload_n hx hb dX7_fillTable_71 rfl (lv_at hl 2 rfl) ?_
        refine lv_iload hx hb dX7_fillTable_72 (lv_at hl 3 rfl) ?_
        obtain ⟨hg74, hf⟩ := mm_gd hf
        refine mm_iast hC hM (hp_this.2.2) hg74 dX7_fillTable_74 (fun w74 H locs hM hm => ?_)
        have hp_this : At7 G w74 b costs (upd L9_best L9_x2.toNatClampNeg q31) := ⟨hm.keep (hp_this.1) (by omega), hm.keep (hp_this.2.1) (by omega), hm.1⟩
        have hF := hF.tr (hm.fr (by omega) (by omega))
        refine lv_iinc (v := (L9_x2 + 1)) (lv' := [(2, .int (L9_x2 + 1)), (0, .ref b), (1, .int x1), (4, .int q31)]) hx hb dX7_fillTable_75 hl (k := 2) rfl rfl (by decide) rfl (fun ls hl => ?_)
        refine lv_goto (tgt := 9) hx hb dX7_fillTable_78 (by decide) ?_
        exact ih _ _ _ hf _ _ _ hM hp_this hF _ (lv_sub hl [1, 2, 0] rfl) hk
  obtain ⟨q9, hq9, hf⟩ := mm_bd hf
  refine L9 K _ _ _ hq9 _ _ _ hM hp_this hF _ (lv_sub hl [1, 2, 0] rfl) (fun w9 H locs hM hp_this hF ls hl => ?_)
  cases hf
  exact hret hM dX7_fillTable_81 ⟨hp_this, hF⟩
def f_X7_costByTable (K : Nat) (costs : Nat → Int32) (best : Nat → Int32) (p1_cells : Nat → Int32) (p1_count : Int32) : Option (Int32 × (Nat → Int32) × (Nat → Int32)) := (f_X7_fillCosts K costs p1_cells p1_count).bind fun q2 => (f_X7_fillTable K q2 best p1_count).bind fun q10 => (f_X7_allOf p1_count).bind fun q21 => mm_g (mm_ck q21 256) (some ((q10 q21.toNatClampNeg), q2, q10))
set_option maxHeartbeats 4000000 in
set_option maxRecDepth 100000 in
theorem c_X7_costByTable (l : Launch) {G : mm_G} {K : Nat} {w : va_W} {sz : Nat} {b : Nat} {b1 : Nat} {costs : Nat → Int32} {best : Nat → Int32} {p1_cells : Nat → Int32} {p1_count : Int32} {X : Int32 × (Nat → Int32) × (Nat → Int32)} (hf : f_X7_costByTable K costs best p1_cells p1_count = some X) (hp_this : At7 G w b costs best) (hp_p1 : At5 G w b1 p1_cells p1_count) (hd0 : b + 3 ≤ b1 ∨ b1 + 2 ≤ b) : Met l yX7_costByTable (Cond.code yX7_costByTable cX7_costByTable 2 (some .int) :: gAll) ({ frames := 4, cells := 0, slots := 0, locals := 98 }) (va_Pc [.ref b, .ref b1] (mm_Pre G w sz)) (mm_Qi G w sz (fun r w' => r = X.1 ∧ At7 G w' b X.2.1 X.2.2 ∧ mm_fr w w' b (b + 3))) 0 0 (va_A w sz) := by
  refine mm_headI [.ref b, .ref b1] (by decide +kernel) rfl (Nat.le_of_ble_eq_true rfl) ?_
  intro p e s m args below meth c A Q hsz hC hM hret ls hl
  have hx := hC.1.1
  have hb := hC.1.2.1
  have hl : lv_has ls 2 [(0, .ref b), (1, .ref b1)] := hl
  have hF : mm_fr w w b (b + 3) := mm_fr.rf
  rw [f_X7_costByTable] at hf
  refine lv_aload_n hx hb dX7_costByTable_0 rfl (lv_at hl 0 rfl) ?_
  refine lv_aload_n hx hb dX7_costByTable_1 rfl (lv_at hl 1 rfl) ?_
  obtain ⟨q2, hq2, hf⟩ := mm_bd hf
  refine mm_Vv (rest := []) hC hM (c_X7_fillCosts l hq2 hp_this hp_p1 (by omega)) q3_10 q1_9 ykX7_fillCosts q3_7 q3_9 qp_90daf7f7 hp_this.1 rfl ⟨rfl, rfl⟩ ⟨Nat.le_of_ble_eq_true rfl, Nat.le_of_ble_eq_true rfl⟩ rfl hl.1 rfl (Nat.le_of_ble_eq_true rfl) dX7_costByTable_2 ⟨Nat.le_of_ble_eq_true rfl, Nat.le_of_ble_eq_true rfl⟩ (fun w2 H locs hM hw => ?_)
  obtain ⟨hn_this, hfr⟩ := hw
  have hp_p1 := hp_p1.keep hfr (by omega)
  have hp_this := hn_this
  have hF := hF.tr (hfr.wide (by omega) (by omega))
  refine lv_aload_n hx hb dX7_costByTable_5 rfl (lv_at hl 0 rfl) ?_
  refine lv_aload_n hx hb dX7_costByTable_6 rfl (lv_at hl 1 rfl) ?_
  refine mm_get hC hM (k := 1) hp_p1.1 rfl inAX5 (by decide) q1_130 rfl dX7_costByTable_7 ?_
  obtain ⟨q10, hq10, hf⟩ := mm_bd hf
  refine mm_Vv (rest := []) hC hM (c_X7_fillTable l hq10 hp_this) q3_32 q1_9 ykX7_fillTable q3_29 q3_31 qp_65324395 hp_this.1 rfl ⟨rfl, rfl⟩ ⟨Nat.le_of_ble_eq_true rfl, Nat.le_of_ble_eq_true rfl⟩ rfl hl.1 rfl (Nat.le_of_ble_eq_true rfl) dX7_costByTable_10 ⟨Nat.le_of_ble_eq_true rfl, Nat.le_of_ble_eq_true rfl⟩ (fun w10 H locs hM hw => ?_)
  obtain ⟨hn_this, hfr⟩ := hw
  have hp_p1 := hp_p1.keep hfr (by omega)
  have hp_this := hn_this
  have hF := hF.tr (hfr.wide (by omega) (by omega))
  refine lv_aload_n hx hb dX7_costByTable_13 rfl (lv_at hl 0 rfl) ?_
  refine mm_get hC hM (k := 1) hp_this.1 rfl inAX7 (by decide) q1_215 rfl dX7_costByTable_14 ?_
  refine lv_aload_n hx hb dX7_costByTable_17 rfl (lv_at hl 1 rfl) ?_
  refine mm_get hC hM (k := 1) hp_p1.1 rfl inAX5 (by decide) q1_130 rfl dX7_costByTable_18 ?_
  obtain ⟨q21, hq21, hf⟩ := mm_bd hf
  refine mm_Si (rest := [.ref (b + 2)]) hC hM (c_X7_allOf l hq21) q3_35 q1_9 ykX7_allOf q3_33 q3_34 ⟨rfl, rfl⟩ ⟨Nat.le_of_ble_eq_true rfl, Nat.le_of_ble_eq_true rfl⟩ rfl hl.1 rfl (Nat.le_of_ble_eq_true rfl) dX7_costByTable_21 ⟨Nat.le_of_ble_eq_true rfl, Nat.le_of_ble_eq_true rfl⟩ (fun r w21 H locs hM hw => ?_)
  obtain ⟨hr, hw⟩ := hw
  rw [hr]
  rw [hw] at hM
  obtain ⟨hg24, hf⟩ := mm_gd hf
  refine mm_iald hC hM (hp_this.2.2) hg24 dX7_costByTable_24 ?_
  cases hf
  exact hret hM dX7_costByTable_25 rfl ⟨rfl, hp_this, hF⟩
def f_X7_leastCost_lvl1_L25 (x1 : Int32) (x3 : Int32) : Nat → (Int32) → (Int32) → Option (Int32)
  | 0, _, _ => none
  | n + 1, x4, x5 => if 8 ≤ x5 then some x4 else (f_X7_holds x1 x5).bind fun q35 => if q35 = 0 then f_X7_leastCost_lvl1_L25 x1 x3 n x4 (x5 + 1) else (f_X7_without x1 x3 x5).bind fun q46 => ((none : Option Int32)).bind fun q52 => some 0
def f_X7_leastCost_lvl1 (K : Nat) (x1 : Int32) (x2 : Int32) : Option (Int32) := if x1 = 0 then some 0 else if x2 < 4 then (f_X7_firstOf K x1).bind fun q12 => (f_X7_leastCost_lvl1_L25 x1 q12 K 1000000 (q12 + 1)).bind fun q25 => some q25 else some 0
set_option maxHeartbeats 4000000 in
set_option maxRecDepth 100000 in
theorem c_X7_leastCost_lvl1 (l : Launch) {G : mm_G} {K : Nat} {w : va_W} {sz : Nat} {a0 : Nat} {p0 : Nat → Int32} {x1 : Int32} {x2 : Int32} {X : Int32} (hf : f_X7_leastCost_lvl1 K x1 x2 = some X) (hp_p0 : (a0, (.inl (G.2 0, 64, .inl p0) : va_E)) ∈ w) : Met l yX7_leastCost (Cond.code yX7_leastCost cX7_leastCost 7 (some .int) :: gAll) ({ frames := 2, cells := 0, slots := 0, locals := 42 }) (va_Pc [.ref a0, .int x1, .int x2] (mm_Pre G w sz)) (mm_Qi G w sz (fun r w' => r = X ∧ w' = w)) 0 0 (va_A w sz) := by
  refine mm_headI [.ref a0, .int x1, .int x2] (by decide +kernel) rfl (Nat.le_of_ble_eq_true rfl) ?_
  intro p e s m args below meth c A Q hsz hC hM hret ls hl
  have hx := hC.1.1
  have hb := hC.1.2.1
  have hl : lv_has ls 7 [(0, .ref a0), (1, .int x1), (2, .int x2)] := hl
  rw [f_X7_leastCost_lvl1] at hf
  refine lv_iload_n hx hb dX7_leastCost_0 rfl (lv_at hl 1 rfl) ?_
  refine lv_if_eq (tgt := 9) hx hb dX7_leastCost_1 (by decide) (fun hcd => ?_) (fun hcd => ?_)
  · rw [if_pos hcd] at hf
    refine lv_iconst (v := 0) hx hb dX7_leastCost_9 (by decide) ?_
    cases hf
    exact hret hM dX7_leastCost_10 rfl ⟨rfl, rfl⟩
  · rw [if_neg hcd] at hf
    refine lv_iload_n hx hb dX7_leastCost_4 rfl (lv_at hl 2 rfl) ?_
    refine lv_iconst (v := 4) hx hb dX7_leastCost_5 (by decide) ?_
    refine lv_icmp_lt (tgt := 11) hx hb dX7_leastCost_6 (by decide) (fun hcd => ?_) (fun hcd => ?_)
    · rw [if_pos hcd] at hf
      refine lv_iload_n hx hb dX7_leastCost_11 rfl (lv_at hl 1 rfl) ?_
      obtain ⟨q12, hq12, hf⟩ := mm_bd hf
      refine mm_Si (rest := []) hC hM (c_X7_firstOf l hq12) q3_38 q1_9 ykX7_firstOf q3_36 q3_37 ⟨rfl, rfl⟩ ⟨Nat.le_of_ble_eq_true rfl, Nat.le_of_ble_eq_true rfl⟩ rfl hl.1 rfl (Nat.le_of_ble_eq_true rfl) dX7_leastCost_12 ⟨Nat.le_of_ble_eq_true rfl, Nat.le_of_ble_eq_true rfl⟩ (fun r w12 H locs hM hw => ?_)
      obtain ⟨hr, hw⟩ := hw
      rw [hr]
      rw [hw] at hM
      refine lv_istore_n (lv' := [(3, .int q12), (0, .ref a0), (1, .int x1), (2, .int x2)]) hx hb dX7_leastCost_15 rfl hl (by decide) rfl (fun ls hl => ?_)
      refine lv_ldc hx hb hC.1.2.2.2.1 (hC.1.2.2.2.2 _ q3_42) dX7_leastCost_16 ?_
      refine lv_istore (lv' := [(4, .int 1000000), (3, .int q12), (0, .ref a0), (1, .int x1), (2, .int x2)]) hx hb dX7_leastCost_18 hl (by decide) rfl (fun ls hl => ?_)
      refine lv_iload_n hx hb dX7_leastCost_20 rfl (lv_at hl 1 rfl) ?_
      refine lv_iconst (v := 1) hx hb dX7_leastCost_21 (by decide) ?_
      refine lv_iadd hx hb dX7_leastCost_22 ?_
      refine lv_istore (lv' := [(5, .int (q12 + 1)), (4, .int 1000000), (3, .int q12), (0, .ref a0), (1, .int x1), (2, .int x2)]) hx hb dX7_leastCost_23 hl (by decide) rfl (fun ls hl => ?_)
      have L25 : ∀ (n : Nat) (L25_x4 : Int32) (L25_x5 : Int32) (X : Int32), f_X7_leastCost_lvl1_L25 x1 q12 n L25_x4 L25_x5 = some X → ∀ (H : Heap) (locs : List Loc), mm_S G A s.heap w H locs → ∀ (ls : Array Slot), lv_has ls 7 [(0, .ref a0), (1, .int x1), (2, .int x2), (3, .int q12), (4, .int L25_x4), (5, .int L25_x5)] → (∀ (H : Heap) (locs : List Loc), mm_S G A s.heap w H locs → ∀ (ls : Array Slot), lv_has ls 7 [(4, .int X)] → W p l e ({ frames := 2, cells := 0, slots := 0, locals := 42 } : Room) s m args below meth c H locs 0 0 Q (F0 m 82 ls [])) → W p l e ({ frames := 2, cells := 0, slots := 0, locals := 42 } : Room) s m args below meth c H locs 0 0 Q (F0 m 25 ls []) := by
        intro n
        induction n with
        | zero => intro L25_x4 L25_x5 X hf; cases hf
        | succ n ih =>
          intro L25_x4 L25_x5 X hf H locs hM ls hl hk
          rw [f_X7_leastCost_lvl1_L25] at hf
          refine lv_iload hx hb dX7_leastCost_25 (lv_at hl 5 rfl) ?_
          refine lv_bipush (v := 8) hx hb dX7_leastCost_27 (by decide) ?_
          refine lv_icmp_ge (tgt := 82) hx hb dX7_leastCost_29 (by decide) (fun hcd => ?_) (fun hcd => ?_)
          · rw [if_pos hcd] at hf
            cases hf
            exact hk _ _ hM _ (lv_sub hl [4] rfl)
          · rw [if_neg hcd] at hf
            refine lv_iload_n hx hb dX7_leastCost_32 rfl (lv_at hl 1 rfl) ?_
            refine lv_iload hx hb dX7_leastCost_33 (lv_at hl 5 rfl) ?_
            obtain ⟨q35, hq35, hf⟩ := mm_bd hf
            refine mm_Si (rest := []) hC hM (c_X7_holds l hq35) q3_41 q1_9 ykX7_holds q3_39 q3_40 ⟨rfl, rfl⟩ ⟨Nat.le_of_ble_eq_true rfl, Nat.le_of_ble_eq_true rfl⟩ rfl hl.1 rfl (Nat.le_of_ble_eq_true rfl) dX7_leastCost_35 ⟨Nat.le_of_ble_eq_true rfl, Nat.le_of_ble_eq_true rfl⟩ (fun r w35 H locs hM hw => ?_)
            obtain ⟨hr, hw⟩ := hw
            rw [hr]
            rw [hw] at hM
            refine lv_if_eq (tgt := 76) hx hb dX7_leastCost_38 (by decide) (fun hcd => ?_) (fun hcd => ?_)
            · rw [if_pos hcd] at hf
              refine lv_iinc (v := (L25_x5 + 1)) (lv' := [(5, .int (L25_x5 + 1)), (0, .ref a0), (1, .int x1), (2, .int x2), (3, .int q12), (4, .int L25_x4)]) hx hb dX7_leastCost_76 hl (k := 5) rfl rfl (by decide) rfl (fun ls hl => ?_)
              refine lv_goto (tgt := 25) hx hb dX7_leastCost_79 (by decide) ?_
              exact ih _ _ _ hf _ _ hM _ (lv_sub hl [1, 2, 3, 4, 5, 0] rfl) hk
            · rw [if_neg hcd] at hf
              refine lv_aload_n hx hb dX7_leastCost_41 rfl (lv_at hl 0 rfl) ?_
              refine lv_iload_n hx hb dX7_leastCost_42 rfl (lv_at hl 1 rfl) ?_
              refine lv_iload_n hx hb dX7_leastCost_43 rfl (lv_at hl 3 rfl) ?_
              refine lv_iload hx hb dX7_leastCost_44 (lv_at hl 5 rfl) ?_
              obtain ⟨q46, hq46, hf⟩ := mm_bd hf
              refine mm_Si (rest := [.ref a0]) hC hM (c_X7_without l hq46) q3_49 q1_9 ykX7_without q3_47 q3_48 ⟨rfl, rfl⟩ ⟨Nat.le_of_ble_eq_true rfl, Nat.le_of_ble_eq_true rfl⟩ rfl hl.1 rfl (Nat.le_of_ble_eq_true rfl) dX7_leastCost_46 ⟨Nat.le_of_ble_eq_true rfl, Nat.le_of_ble_eq_true rfl⟩ (fun r w46 H locs hM hw => ?_)
              obtain ⟨hr, hw⟩ := hw
              rw [hr]
              rw [hw] at hM
              refine lv_iload_n hx hb dX7_leastCost_49 rfl (lv_at hl 2 rfl) ?_
              refine lv_iconst (v := 1) hx hb dX7_leastCost_50 (by decide) ?_
              refine lv_iadd hx hb dX7_leastCost_51 ?_
              cases hf
      obtain ⟨q25, hq25, hf⟩ := mm_bd hf
      refine L25 K _ _ _ hq25 _ _ hM _ (lv_sub hl [3, 4, 5, 2, 1, 0] rfl) (fun H locs hM ls hl => ?_)
      refine lv_iload hx hb dX7_leastCost_82 (lv_at hl 0 rfl) ?_
      cases hf
      exact hret hM dX7_leastCost_84 rfl ⟨rfl, rfl⟩
    · rw [if_neg hcd] at hf
      refine lv_iconst (v := 0) hx hb dX7_leastCost_9 (by decide) ?_
      cases hf
      exact hret hM dX7_leastCost_10 rfl ⟨rfl, rfl⟩
def f_X7_leastCost_lvl2_L25 (K : Nat) (p0 : Nat → Int32) (x1 : Int32) (x2 : Int32) (x3 : Int32) : Nat → (Int32) → (Int32) → Option (Int32)
  | 0, _, _ => none
  | n + 1, x4, x5 => if 8 ≤ x5 then some x4 else (f_X7_holds x1 x5).bind fun q35 => if q35 = 0 then f_X7_leastCost_lvl2_L25 K p0 x1 x2 x3 n x4 (x5 + 1) else (f_X7_without x1 x3 x5).bind fun q46 => (f_X7_leastCost_lvl1 K q46 (x2 + 1)).bind fun q52 => mm_g (mm_ck ((x3 * 8) + x5) 64) (f_X7_leastCost_lvl2_L25 K p0 x1 x2 x3 n (if ((p0 ((x3 * 8) + x5).toNatClampNeg) + q52) < x4 then ((p0 ((x3 * 8) + x5).toNatClampNeg) + q52) else x4) (x5 + 1))
def f_X7_leastCost_lvl2 (K : Nat) (p0 : Nat → Int32) (x1 : Int32) (x2 : Int32) : Option (Int32) := if x1 = 0 then some 0 else if x2 < 4 then (f_X7_firstOf K x1).bind fun q12 => (f_X7_leastCost_lvl2_L25 K p0 x1 x2 q12 K 1000000 (q12 + 1)).bind fun q25 => some q25 else some 0
set_option maxHeartbeats 4000000 in
set_option maxRecDepth 100000 in
theorem c_X7_leastCost_lvl2 (l : Launch) {G : mm_G} {K : Nat} {w : va_W} {sz : Nat} {a0 : Nat} {p0 : Nat → Int32} {x1 : Int32} {x2 : Int32} {X : Int32} (hf : f_X7_leastCost_lvl2 K p0 x1 x2 = some X) (hp_p0 : (a0, (.inl (G.2 0, 64, .inl p0) : va_E)) ∈ w) : Met l yX7_leastCost (Cond.code yX7_leastCost cX7_leastCost 7 (some .int) :: gAll) ({ frames := 3, cells := 0, slots := 0, locals := 68 }) (va_Pc [.ref a0, .int x1, .int x2] (mm_Pre G w sz)) (mm_Qi G w sz (fun r w' => r = X ∧ w' = w)) 0 0 (va_A w sz) := by
  refine mm_headI [.ref a0, .int x1, .int x2] (by decide +kernel) rfl (Nat.le_of_ble_eq_true rfl) ?_
  intro p e s m args below meth c A Q hsz hC hM hret ls hl
  have hx := hC.1.1
  have hb := hC.1.2.1
  have hl : lv_has ls 7 [(0, .ref a0), (1, .int x1), (2, .int x2)] := hl
  rw [f_X7_leastCost_lvl2] at hf
  refine lv_iload_n hx hb dX7_leastCost_0 rfl (lv_at hl 1 rfl) ?_
  refine lv_if_eq (tgt := 9) hx hb dX7_leastCost_1 (by decide) (fun hcd => ?_) (fun hcd => ?_)
  · rw [if_pos hcd] at hf
    refine lv_iconst (v := 0) hx hb dX7_leastCost_9 (by decide) ?_
    cases hf
    exact hret hM dX7_leastCost_10 rfl ⟨rfl, rfl⟩
  · rw [if_neg hcd] at hf
    refine lv_iload_n hx hb dX7_leastCost_4 rfl (lv_at hl 2 rfl) ?_
    refine lv_iconst (v := 4) hx hb dX7_leastCost_5 (by decide) ?_
    refine lv_icmp_lt (tgt := 11) hx hb dX7_leastCost_6 (by decide) (fun hcd => ?_) (fun hcd => ?_)
    · rw [if_pos hcd] at hf
      refine lv_iload_n hx hb dX7_leastCost_11 rfl (lv_at hl 1 rfl) ?_
      obtain ⟨q12, hq12, hf⟩ := mm_bd hf
      refine mm_Si (rest := []) hC hM (c_X7_firstOf l hq12) q3_38 q1_9 ykX7_firstOf q3_36 q3_37 ⟨rfl, rfl⟩ ⟨Nat.le_of_ble_eq_true rfl, Nat.le_of_ble_eq_true rfl⟩ rfl hl.1 rfl (Nat.le_of_ble_eq_true rfl) dX7_leastCost_12 ⟨Nat.le_of_ble_eq_true rfl, Nat.le_of_ble_eq_true rfl⟩ (fun r w12 H locs hM hw => ?_)
      obtain ⟨hr, hw⟩ := hw
      rw [hr]
      rw [hw] at hM
      refine lv_istore_n (lv' := [(3, .int q12), (0, .ref a0), (1, .int x1), (2, .int x2)]) hx hb dX7_leastCost_15 rfl hl (by decide) rfl (fun ls hl => ?_)
      refine lv_ldc hx hb hC.1.2.2.2.1 (hC.1.2.2.2.2 _ q3_42) dX7_leastCost_16 ?_
      refine lv_istore (lv' := [(4, .int 1000000), (3, .int q12), (0, .ref a0), (1, .int x1), (2, .int x2)]) hx hb dX7_leastCost_18 hl (by decide) rfl (fun ls hl => ?_)
      refine lv_iload_n hx hb dX7_leastCost_20 rfl (lv_at hl 1 rfl) ?_
      refine lv_iconst (v := 1) hx hb dX7_leastCost_21 (by decide) ?_
      refine lv_iadd hx hb dX7_leastCost_22 ?_
      refine lv_istore (lv' := [(5, .int (q12 + 1)), (4, .int 1000000), (3, .int q12), (0, .ref a0), (1, .int x1), (2, .int x2)]) hx hb dX7_leastCost_23 hl (by decide) rfl (fun ls hl => ?_)
      have L25 : ∀ (n : Nat) (L25_x4 : Int32) (L25_x5 : Int32) (X : Int32), f_X7_leastCost_lvl2_L25 K p0 x1 x2 q12 n L25_x4 L25_x5 = some X → ∀ (H : Heap) (locs : List Loc), mm_S G A s.heap w H locs → ∀ (ls : Array Slot), lv_has ls 7 [(0, .ref a0), (1, .int x1), (2, .int x2), (3, .int q12), (4, .int L25_x4), (5, .int L25_x5)] → (∀ (H : Heap) (locs : List Loc), mm_S G A s.heap w H locs → ∀ (ls : Array Slot), lv_has ls 7 [(4, .int X)] → W p l e ({ frames := 3, cells := 0, slots := 0, locals := 68 } : Room) s m args below meth c H locs 0 0 Q (F0 m 82 ls [])) → W p l e ({ frames := 3, cells := 0, slots := 0, locals := 68 } : Room) s m args below meth c H locs 0 0 Q (F0 m 25 ls []) := by
        intro n
        induction n with
        | zero => intro L25_x4 L25_x5 X hf; cases hf
        | succ n ih =>
          intro L25_x4 L25_x5 X hf H locs hM ls hl hk
          rw [f_X7_leastCost_lvl2_L25] at hf
          refine lv_iload hx hb dX7_leastCost_25 (lv_at hl 5 rfl) ?_
          refine lv_bipush (v := 8) hx hb dX7_leastCost_27 (by decide) ?_
          refine lv_icmp_ge (tgt := 82) hx hb dX7_leastCost_29 (by decide) (fun hcd => ?_) (fun hcd => ?_)
          · rw [if_pos hcd] at hf
            cases hf
            exact hk _ _ hM _ (lv_sub hl [4] rfl)
          · rw [if_neg hcd] at hf
            refine lv_iload_n hx hb dX7_leastCost_32 rfl (lv_at hl 1 rfl) ?_
            refine lv_iload hx hb dX7_leastCost_33 (lv_at hl 5 rfl) ?_
            obtain ⟨q35, hq35, hf⟩ := mm_bd hf
            refine mm_Si (rest := []) hC hM (c_X7_holds l hq35) q3_41 q1_9 ykX7_holds q3_39 q3_40 ⟨rfl, rfl⟩ ⟨Nat.le_of_ble_eq_true rfl, Nat.le_of_ble_eq_true rfl⟩ rfl hl.1 rfl (Nat.le_of_ble_eq_true rfl) dX7_leastCost_35 ⟨Nat.le_of_ble_eq_true rfl, Nat.le_of_ble_eq_true rfl⟩ (fun r w35 H locs hM hw => ?_)
            obtain ⟨hr, hw⟩ := hw
            rw [hr]
            rw [hw] at hM
            refine lv_if_eq (tgt := 76) hx hb dX7_leastCost_38 (by decide) (fun hcd => ?_) (fun hcd => ?_)
            · rw [if_pos hcd] at hf
              refine lv_iinc (v := (L25_x5 + 1)) (lv' := [(5, .int (L25_x5 + 1)), (0, .ref a0), (1, .int x1), (2, .int x2), (3, .int q12), (4, .int L25_x4)]) hx hb dX7_leastCost_76 hl (k := 5) rfl rfl (by decide) rfl (fun ls hl => ?_)
              refine lv_goto (tgt := 25) hx hb dX7_leastCost_79 (by decide) ?_
              exact ih _ _ _ hf _ _ hM _ (lv_sub hl [1, 2, 3, 4, 5, 0] rfl) hk
            · rw [if_neg hcd] at hf
              refine lv_aload_n hx hb dX7_leastCost_41 rfl (lv_at hl 0 rfl) ?_
              refine lv_iload_n hx hb dX7_leastCost_42 rfl (lv_at hl 1 rfl) ?_
              refine lv_iload_n hx hb dX7_leastCost_43 rfl (lv_at hl 3 rfl) ?_
              refine lv_iload hx hb dX7_leastCost_44 (lv_at hl 5 rfl) ?_
              obtain ⟨q46, hq46, hf⟩ := mm_bd hf
              refine mm_Si (rest := [.ref a0]) hC hM (c_X7_without l hq46) q3_49 q1_9 ykX7_without q3_47 q3_48 ⟨rfl, rfl⟩ ⟨Nat.le_of_ble_eq_true rfl, Nat.le_of_ble_eq_true rfl⟩ rfl hl.1 rfl (Nat.le_of_ble_eq_true rfl) dX7_leastCost_46 ⟨Nat.le_of_ble_eq_true rfl, Nat.le_of_ble_eq_true rfl⟩ (fun r w46 H locs hM hw => ?_)
              obtain ⟨hr, hw⟩ := hw
              rw [hr]
              rw [hw] at hM
              refine lv_iload_n hx hb dX7_leastCost_49 rfl (lv_at hl 2 rfl) ?_
              refine lv_iconst (v := 1) hx hb dX7_leastCost_50 (by decide) ?_
              refine lv_iadd hx hb dX7_leastCost_51 ?_
              obtain ⟨q52, hq52, hf⟩ := mm_bd hf
              refine mm_Si (rest := []) hC hM (c_X7_leastCost_lvl1 l hq52 hp_p0) q3_57 q1_9 ykX7_leastCost q3_55 q3_56 ⟨rfl, rfl⟩ ⟨Nat.le_of_ble_eq_true rfl, Nat.le_of_ble_eq_true rfl⟩ rfl hl.1 rfl (Nat.le_of_ble_eq_true rfl) dX7_leastCost_52 ⟨Nat.le_of_ble_eq_true rfl, Nat.le_of_ble_eq_true rfl⟩ (fun r w52 H locs hM hw => ?_)
              obtain ⟨hr, hw⟩ := hw
              rw [hr]
              rw [hw] at hM
              refine lv_istore (lv' := [(6, .int q52), (0, .ref a0), (1, .int x1), (2, .int x2), (3, .int q12), (4, .int L25_x4), (5, .int L25_x5)]) hx hb dX7_leastCost_55 hl (by decide) rfl (fun ls hl => ?_)
              refine lv_iload hx hb dX7_leastCost_57 (lv_at hl 5 rfl) ?_
              refine lv_aload_n hx hb dX7_leastCost_59 rfl (lv_at hl 1 rfl) ?_
              refine lv_iload_n hx hb dX7_leastCost_60 rfl (lv_at hl 4 rfl) ?_
              refine lv_bipush (v := 8) hx hb dX7_leastCost_61 (by decide) ?_
              refine lv_imul hx hb dX7_leastCost_63 ?_
              refine lv_iload hx hb dX7_leastCost_64 (lv_at hl 6 rfl) ?_
              refine lv_iadd hx hb dX7_leastCost_66 ?_
              obtain ⟨hg67, hf⟩ := mm_gd hf
              refine mm_iald hC hM hp_p0 hg67 dX7_leastCost_67 ?_
              refine lv_iload hx hb dX7_leastCost_68 (lv_at hl 0 rfl) ?_
              refine lv_iadd hx hb dX7_leastCost_70 ?_
              refine va_mmin hx hb (hC.1.2.2.1.trans hl.1.symm) hC.1.2.2.2.1 (hC.1.2.2.2.2 _ q3_50) (hC.1.2.2.2.2 _ q3_27) (hC.1.2.2.2.2 _ q1_24) (hC.1.2.2.2.2 _ q3_28) (Nat.le_of_ble_eq_true rfl) (Nat.le_of_ble_eq_true rfl) (Nat.le_of_ble_eq_true rfl) (Nat.le_of_ble_eq_true rfl) dX7_leastCost_71 ?_
              refine lv_istore (lv' := [(4, .int (if ((p0 ((q12 * 8) + L25_x5).toNatClampNeg) + q52) < L25_x4 then ((p0 ((q12 * 8) + L25_x5).toNatClampNeg) + q52) else L25_x4)), (6, .int q52), (0, .ref a0), (1, .int x1), (2, .int x2), (3, .int q12), (5, .int L25_x5)]) hx hb dX7_leastCost_74 hl (by decide) rfl (fun ls hl => ?_)
              refine lv_iinc (v := (L25_x5 + 1)) (lv' := [(5, .int (L25_x5 + 1)), (4, .int (if ((p0 ((q12 * 8) + L25_x5).toNatClampNeg) + q52) < L25_x4 then ((p0 ((q12 * 8) + L25_x5).toNatClampNeg) + q52) else L25_x4)), (6, .int q52), (0, .ref a0), (1, .int x1), (2, .int x2), (3, .int q12)]) hx hb dX7_leastCost_76 hl (k := 6) rfl rfl (by decide) rfl (fun ls hl => ?_)
              refine lv_goto (tgt := 25) hx hb dX7_leastCost_79 (by decide) ?_
              exact ih _ _ _ hf _ _ hM _ (lv_sub hl [3, 4, 5, 6, 1, 0] rfl) hk
      obtain ⟨q25, hq25, hf⟩ := mm_bd hf
      refine L25 K _ _ _ hq25 _ _ hM _ (lv_sub hl [3, 4, 5, 2, 1, 0] rfl) (fun H locs hM ls hl => ?_)
      refine lv_iload hx hb dX7_leastCost_82 (lv_at hl 0 rfl) ?_
      cases hf
      exact hret hM dX7_leastCost_84 rfl ⟨rfl, rfl⟩
    · rw [if_neg hcd] at hf
      refine lv_iconst (v := 0) hx hb dX7_leastCost_9 (by decide) ?_
      cases hf
      exact hret hM dX7_leastCost_10 rfl ⟨rfl, rfl⟩
def f_X7_leastCost_lvl3_L25 (K : Nat) (p0 : Nat → Int32) (x1 : Int32) (x2 : Int32) (x3 : Int32) : Nat → (Int32) → (Int32) → Option (Int32)
  | 0, _, _ => none
  | n + 1, x4, x5 => if 8 ≤ x5 then some x4 else (f_X7_holds x1 x5).bind fun q35 => if q35 = 0 then f_X7_leastCost_lvl3_L25 K p0 x1 x2 x3 n x4 (x5 + 1) else (f_X7_without x1 x3 x5).bind fun q46 => (f_X7_leastCost_lvl2 K p0 q46 (x2 + 1)).bind fun q52 => mm_g (mm_ck ((x3 * 8) + x5) 64) (f_X7_leastCost_lvl3_L25 K p0 x1 x2 x3 n (if ((p0 ((x3 * 8) + x5).toNatClampNeg) + q52) < x4 then ((p0 ((x3 * 8) + x5).toNatClampNeg) + q52) else x4) (x5 + 1))
def f_X7_leastCost_lvl3 (K : Nat) (p0 : Nat → Int32) (x1 : Int32) (x2 : Int32) : Option (Int32) := if x1 = 0 then some 0 else if x2 < 4 then (f_X7_firstOf K x1).bind fun q12 => (f_X7_leastCost_lvl3_L25 K p0 x1 x2 q12 K 1000000 (q12 + 1)).bind fun q25 => some q25 else some 0
set_option maxHeartbeats 4000000 in
set_option maxRecDepth 100000 in
theorem c_X7_leastCost_lvl3 (l : Launch) {G : mm_G} {K : Nat} {w : va_W} {sz : Nat} {a0 : Nat} {p0 : Nat → Int32} {x1 : Int32} {x2 : Int32} {X : Int32} (hf : f_X7_leastCost_lvl3 K p0 x1 x2 = some X) (hp_p0 : (a0, (.inl (G.2 0, 64, .inl p0) : va_E)) ∈ w) : Met l yX7_leastCost (Cond.code yX7_leastCost cX7_leastCost 7 (some .int) :: gAll) ({ frames := 4, cells := 0, slots := 0, locals := 94 }) (va_Pc [.ref a0, .int x1, .int x2] (mm_Pre G w sz)) (mm_Qi G w sz (fun r w' => r = X ∧ w' = w)) 0 0 (va_A w sz) := by
  refine mm_headI [.ref a0, .int x1, .int x2] (by decide +kernel) rfl (Nat.le_of_ble_eq_true rfl) ?_
  intro p e s m args below meth c A Q hsz hC hM hret ls hl
  have hx := hC.1.1
  have hb := hC.1.2.1
  have hl : lv_has ls 7 [(0, .ref a0), (1, .int x1), (2, .int x2)] := hl
  rw [f_X7_leastCost_lvl3] at hf
  refine lv_iload_n hx hb dX7_leastCost_0 rfl (lv_at hl 1 rfl) ?_
  refine lv_if_eq (tgt := 9) hx hb dX7_leastCost_1 (by decide) (fun hcd => ?_) (fun hcd => ?_)
  · rw [if_pos hcd] at hf
    refine lv_iconst (v := 0) hx hb dX7_leastCost_9 (by decide) ?_
    cases hf
    exact hret hM dX7_leastCost_10 rfl ⟨rfl, rfl⟩
  · rw [if_neg hcd] at hf
    refine lv_iload_n hx hb dX7_leastCost_4 rfl (lv_at hl 2 rfl) ?_
    refine lv_iconst (v := 4) hx hb dX7_leastCost_5 (by decide) ?_
    refine lv_icmp_lt (tgt := 11) hx hb dX7_leastCost_6 (by decide) (fun hcd => ?_) (fun hcd => ?_)
    · rw [if_pos hcd] at hf
      refine lv_iload_n hx hb dX7_leastCost_11 rfl (lv_at hl 1 rfl) ?_
      obtain ⟨q12, hq12, hf⟩ := mm_bd hf
      refine mm_Si (rest := []) hC hM (c_X7_firstOf l hq12) q3_38 q1_9 ykX7_firstOf q3_36 q3_37 ⟨rfl, rfl⟩ ⟨Nat.le_of_ble_eq_true rfl, Nat.le_of_ble_eq_true rfl⟩ rfl hl.1 rfl (Nat.le_of_ble_eq_true rfl) dX7_leastCost_12 ⟨Nat.le_of_ble_eq_true rfl, Nat.le_of_ble_eq_true rfl⟩ (fun r w12 H locs hM hw => ?_)
      obtain ⟨hr, hw⟩ := hw
      rw [hr]
      rw [hw] at hM
      refine lv_istore_n (lv' := [(3, .int q12), (0, .ref a0), (1, .int x1), (2, .int x2)]) hx hb dX7_leastCost_15 rfl hl (by decide) rfl (fun ls hl => ?_)
      refine lv_ldc hx hb hC.1.2.2.2.1 (hC.1.2.2.2.2 _ q3_42) dX7_leastCost_16 ?_
      refine lv_istore (lv' := [(4, .int 1000000), (3, .int q12), (0, .ref a0), (1, .int x1), (2, .int x2)]) hx hb dX7_leastCost_18 hl (by decide) rfl (fun ls hl => ?_)
      refine lv_iload_n hx hb dX7_leastCost_20 rfl (lv_at hl 1 rfl) ?_
      refine lv_iconst (v := 1) hx hb dX7_leastCost_21 (by decide) ?_
      refine lv_iadd hx hb dX7_leastCost_22 ?_
      refine lv_istore (lv' := [(5, .int (q12 + 1)), (4, .int 1000000), (3, .int q12), (0, .ref a0), (1, .int x1), (2, .int x2)]) hx hb dX7_leastCost_23 hl (by decide) rfl (fun ls hl => ?_)
      have L25 : ∀ (n : Nat) (L25_x4 : Int32) (L25_x5 : Int32) (X : Int32), f_X7_leastCost_lvl3_L25 K p0 x1 x2 q12 n L25_x4 L25_x5 = some X → ∀ (H : Heap) (locs : List Loc), mm_S G A s.heap w H locs → ∀ (ls : Array Slot), lv_has ls 7 [(0, .ref a0), (1, .int x1), (2, .int x2), (3, .int q12), (4, .int L25_x4), (5, .int L25_x5)] → (∀ (H : Heap) (locs : List Loc), mm_S G A s.heap w H locs → ∀ (ls : Array Slot), lv_has ls 7 [(4, .int X)] → W p l e ({ frames := 4, cells := 0, slots := 0, locals := 94 } : Room) s m args below meth c H locs 0 0 Q (F0 m 82 ls [])) → W p l e ({ frames := 4, cells := 0, slots := 0, locals := 94 } : Room) s m args below meth c H locs 0 0 Q (F0 m 25 ls []) := by
        intro n
        induction n with
        | zero => intro L25_x4 L25_x5 X hf; cases hf
        | succ n ih =>
          intro L25_x4 L25_x5 X hf H locs hM ls hl hk
          rw [f_X7_leastCost_lvl3_L25] at hf
          refine lv_iload hx hb dX7_leastCost_25 (lv_at hl 5 rfl) ?_
          refine lv_bipush (v := 8) hx hb dX7_leastCost_27 (by decide) ?_
          refine lv_icmp_ge (tgt := 82) hx hb dX7_leastCost_29 (by decide) (fun hcd => ?_) (fun hcd => ?_)
          · rw [if_pos hcd] at hf
            cases hf
            exact hk _ _ hM _ (lv_sub hl [4] rfl)
          · rw [if_neg hcd] at hf
            refine lv_iload_n hx hb dX7_leastCost_32 rfl (lv_at hl 1 rfl) ?_
            refine lv_iload hx hb dX7_leastCost_33 (lv_at hl 5 rfl) ?_
            obtain ⟨q35, hq35, hf⟩ := mm_bd hf
            refine mm_Si (rest := []) hC hM (c_X7_holds l hq35) q3_41 q1_9 ykX7_holds q3_39 q3_40 ⟨rfl, rfl⟩ ⟨Nat.le_of_ble_eq_true rfl, Nat.le_of_ble_eq_true rfl⟩ rfl hl.1 rfl (Nat.le_of_ble_eq_true rfl) dX7_leastCost_35 ⟨Nat.le_of_ble_eq_true rfl, Nat.le_of_ble_eq_true rfl⟩ (fun r w35 H locs hM hw => ?_)
            obtain ⟨hr, hw⟩ := hw
            rw [hr]
            rw [hw] at hM
            refine lv_if_eq (tgt := 76) hx hb dX7_leastCost_38 (by decide) (fun hcd => ?_) (fun hcd => ?_)
            · rw [if_pos hcd] at hf
              refine lv_iinc (v := (L25_x5 + 1)) (lv' := [(5, .int (L25_x5 + 1)), (0, .ref a0), (1, .int x1), (2, .int x2), (3, .int q12), (4, .int L25_x4)]) hx hb dX7_leastCost_76 hl (k := 5) rfl rfl (by decide) rfl (fun ls hl => ?_)
              refine lv_goto (tgt := 25) hx hb dX7_leastCost_79 (by decide) ?_
              exact ih _ _ _ hf _ _ hM _ (lv_sub hl [1, 2, 3, 4, 5, 0] rfl) hk
            · rw [if_neg hcd] at hf
              refine lv_aload_n hx hb dX7_leastCost_41 rfl (lv_at hl 0 rfl) ?_
              refine lv_iload_n hx hb dX7_leastCost_42 rfl (lv_at hl 1 rfl) ?_
              refine lv_iload_n hx hb dX7_leastCost_43 rfl (lv_at hl 3 rfl) ?_
              refine lv_iload hx hb dX7_leastCost_44 (lv_at hl 5 rfl) ?_
              obtain ⟨q46, hq46, hf⟩ := mm_bd hf
              refine mm_Si (rest := [.ref a0]) hC hM (c_X7_without l hq46) q3_49 q1_9 ykX7_without q3_47 q3_48 ⟨rfl, rfl⟩ ⟨Nat.le_of_ble_eq_true rfl, Nat.le_of_ble_eq_true rfl⟩ rfl hl.1 rfl (Nat.le_of_ble_eq_true rfl) dX7_leastCost_46 ⟨Nat.le_of_ble_eq_true rfl, Nat.le_of_ble_eq_true rfl⟩ (fun r w46 H locs hM hw => ?_)
              obtain ⟨hr, hw⟩ := hw
              rw [hr]
              rw [hw] at hM
              refine lv_iload_n hx hb dX7_leastCost_49 rfl (lv_at hl 2 rfl) ?_
              refine lv_iconst (v := 1) hx hb dX7_leastCost_50 (by decide) ?_
              refine lv_iadd hx hb dX7_leastCost_51 ?_
              obtain ⟨q52, hq52, hf⟩ := mm_bd hf
              refine mm_Si (rest := []) hC hM (c_X7_leastCost_lvl2 l hq52 hp_p0) q3_57 q1_9 ykX7_leastCost q3_55 q3_56 ⟨rfl, rfl⟩ ⟨Nat.le_of_ble_eq_true rfl, Nat.le_of_ble_eq_true rfl⟩ rfl hl.1 rfl (Nat.le_of_ble_eq_true rfl) dX7_leastCost_52 ⟨Nat.le_of_ble_eq_true rfl, Nat.le_of_ble_eq_true rfl⟩ (fun r w52 H locs hM hw => ?_)
              obtain ⟨hr, hw⟩ := hw
              rw [hr]
              rw [hw] at hM
              refine lv_istore (lv' := [(6, .int q52), (0, .ref a0), (1, .int x1), (2, .int x2), (3, .int q12), (4, .int L25_x4), (5, .int L25_x5)]) hx hb dX7_leastCost_55 hl (by decide) rfl (fun ls hl => ?_)
              refine lv_iload hx hb dX7_leastCost_57 (lv_at hl 5 rfl) ?_
              refine lv_aload_n hx hb dX7_leastCost_59 rfl (lv_at hl 1 rfl) ?_
              refine lv_iload_n hx hb dX7_leastCost_60 rfl (lv_at hl 4 rfl) ?_
              refine lv_bipush (v := 8) hx hb dX7_leastCost_61 (by decide) ?_
              refine lv_imul hx hb dX7_leastCost_63 ?_
              refine lv_iload hx hb dX7_leastCost_64 (lv_at hl 6 rfl) ?_
              refine lv_iadd hx hb dX7_leastCost_66 ?_
              obtain ⟨hg67, hf⟩ := mm_gd hf
              refine mm_iald hC hM hp_p0 hg67 dX7_leastCost_67 ?_
              refine lv_iload hx hb dX7_leastCost_68 (lv_at hl 0 rfl) ?_
              refine lv_iadd hx hb dX7_leastCost_70 ?_
              refine va_mmin hx hb (hC.1.2.2.1.trans hl.1.symm) hC.1.2.2.2.1 (hC.1.2.2.2.2 _ q3_50) (hC.1.2.2.2.2 _ q3_27) (hC.1.2.2.2.2 _ q1_24) (hC.1.2.2.2.2 _ q3_28) (Nat.le_of_ble_eq_true rfl) (Nat.le_of_ble_eq_true rfl) (Nat.le_of_ble_eq_true rfl) (Nat.le_of_ble_eq_true rfl) dX7_leastCost_71 ?_
              refine lv_istore (lv' := [(4, .int (if ((p0 ((q12 * 8) + L25_x5).toNatClampNeg) + q52) < L25_x4 then ((p0 ((q12 * 8) + L25_x5).toNatClampNeg) + q52) else L25_x4)), (6, .int q52), (0, .ref a0), (1, .int x1), (2, .int x2), (3, .int q12), (5, .int L25_x5)]) hx hb dX7_leastCost_74 hl (by decide) rfl (fun ls hl => ?_)
              refine lv_iinc (v := (L25_x5 + 1)) (lv' := [(5, .int (L25_x5 + 1)), (4, .int (if ((p0 ((q12 * 8) + L25_x5).toNatClampNeg) + q52) < L25_x4 then ((p0 ((q12 * 8) + L25_x5).toNatClampNeg) + q52) else L25_x4)), (6, .int q52), (0, .ref a0), (1, .int x1), (2, .int x2), (3, .int q12)]) hx hb dX7_leastCost_76 hl (k := 6) rfl rfl (by decide) rfl (fun ls hl => ?_)
              refine lv_goto (tgt := 25) hx hb dX7_leastCost_79 (by decide) ?_
              exact ih _ _ _ hf _ _ hM _ (lv_sub hl [3, 4, 5, 6, 1, 0] rfl) hk
      obtain ⟨q25, hq25, hf⟩ := mm_bd hf
      refine L25 K _ _ _ hq25 _ _ hM _ (lv_sub hl [3, 4, 5, 2, 1, 0] rfl) (fun H locs hM ls hl => ?_)
      refine lv_iload hx hb dX7_leastCost_82 (lv_at hl 0 rfl) ?_
      cases hf
      exact hret hM dX7_leastCost_84 rfl ⟨rfl, rfl⟩
    · rw [if_neg hcd] at hf
      refine lv_iconst (v := 0) hx hb dX7_leastCost_9 (by decide) ?_
      cases hf
      exact hret hM dX7_leastCost_10 rfl ⟨rfl, rfl⟩
def f_X7_leastCost_lvl4_L25 (K : Nat) (p0 : Nat → Int32) (x1 : Int32) (x2 : Int32) (x3 : Int32) : Nat → (Int32) → (Int32) → Option (Int32)
  | 0, _, _ => none
  | n + 1, x4, x5 => if 8 ≤ x5 then some x4 else (f_X7_holds x1 x5).bind fun q35 => if q35 = 0 then f_X7_leastCost_lvl4_L25 K p0 x1 x2 x3 n x4 (x5 + 1) else (f_X7_without x1 x3 x5).bind fun q46 => (f_X7_leastCost_lvl3 K p0 q46 (x2 + 1)).bind fun q52 => mm_g (mm_ck ((x3 * 8) + x5) 64) (f_X7_leastCost_lvl4_L25 K p0 x1 x2 x3 n (if ((p0 ((x3 * 8) + x5).toNatClampNeg) + q52) < x4 then ((p0 ((x3 * 8) + x5).toNatClampNeg) + q52) else x4) (x5 + 1))
def f_X7_leastCost_lvl4 (K : Nat) (p0 : Nat → Int32) (x1 : Int32) (x2 : Int32) : Option (Int32) := if x1 = 0 then some 0 else if x2 < 4 then (f_X7_firstOf K x1).bind fun q12 => (f_X7_leastCost_lvl4_L25 K p0 x1 x2 q12 K 1000000 (q12 + 1)).bind fun q25 => some q25 else some 0
set_option maxHeartbeats 4000000 in
set_option maxRecDepth 100000 in
theorem c_X7_leastCost_lvl4 (l : Launch) {G : mm_G} {K : Nat} {w : va_W} {sz : Nat} {a0 : Nat} {p0 : Nat → Int32} {x1 : Int32} {x2 : Int32} {X : Int32} (hf : f_X7_leastCost_lvl4 K p0 x1 x2 = some X) (hp_p0 : (a0, (.inl (G.2 0, 64, .inl p0) : va_E)) ∈ w) : Met l yX7_leastCost (Cond.code yX7_leastCost cX7_leastCost 7 (some .int) :: gAll) ({ frames := 5, cells := 0, slots := 0, locals := 120 }) (va_Pc [.ref a0, .int x1, .int x2] (mm_Pre G w sz)) (mm_Qi G w sz (fun r w' => r = X ∧ w' = w)) 0 0 (va_A w sz) := by
  refine mm_headI [.ref a0, .int x1, .int x2] (by decide +kernel) rfl (Nat.le_of_ble_eq_true rfl) ?_
  intro p e s m args below meth c A Q hsz hC hM hret ls hl
  have hx := hC.1.1
  have hb := hC.1.2.1
  have hl : lv_has ls 7 [(0, .ref a0), (1, .int x1), (2, .int x2)] := hl
  rw [f_X7_leastCost_lvl4] at hf
  refine lv_iload_n hx hb dX7_leastCost_0 rfl (lv_at hl 1 rfl) ?_
  refine lv_if_eq (tgt := 9) hx hb dX7_leastCost_1 (by decide) (fun hcd => ?_) (fun hcd => ?_)
  · rw [if_pos hcd] at hf
    refine lv_iconst (v := 0) hx hb dX7_leastCost_9 (by decide) ?_
    cases hf
    exact hret hM dX7_leastCost_10 rfl ⟨rfl, rfl⟩
  · rw [if_neg hcd] at hf
    refine lv_iload_n hx hb dX7_leastCost_4 rfl (lv_at hl 2 rfl) ?_
    refine lv_iconst (v := 4) hx hb dX7_leastCost_5 (by decide) ?_
    refine lv_icmp_lt (tgt := 11) hx hb dX7_leastCost_6 (by decide) (fun hcd => ?_) (fun hcd => ?_)
    · rw [if_pos hcd] at hf
      refine lv_iload_n hx hb dX7_leastCost_11 rfl (lv_at hl 1 rfl) ?_
      obtain ⟨q12, hq12, hf⟩ := mm_bd hf
      refine mm_Si (rest := []) hC hM (c_X7_firstOf l hq12) q3_38 q1_9 ykX7_firstOf q3_36 q3_37 ⟨rfl, rfl⟩ ⟨Nat.le_of_ble_eq_true rfl, Nat.le_of_ble_eq_true rfl⟩ rfl hl.1 rfl (Nat.le_of_ble_eq_true rfl) dX7_leastCost_12 ⟨Nat.le_of_ble_eq_true rfl, Nat.le_of_ble_eq_true rfl⟩ (fun r w12 H locs hM hw => ?_)
      obtain ⟨hr, hw⟩ := hw
      rw [hr]
      rw [hw] at hM
      refine lv_istore_n (lv' := [(3, .int q12), (0, .ref a0), (1, .int x1), (2, .int x2)]) hx hb dX7_leastCost_15 rfl hl (by decide) rfl (fun ls hl => ?_)
      refine lv_ldc hx hb hC.1.2.2.2.1 (hC.1.2.2.2.2 _ q3_42) dX7_leastCost_16 ?_
      refine lv_istore (lv' := [(4, .int 1000000), (3, .int q12), (0, .ref a0), (1, .int x1), (2, .int x2)]) hx hb dX7_leastCost_18 hl (by decide) rfl (fun ls hl => ?_)
      refine lv_iload_n hx hb dX7_leastCost_20 rfl (lv_at hl 1 rfl) ?_
      refine lv_iconst (v := 1) hx hb dX7_leastCost_21 (by decide) ?_
      refine lv_iadd hx hb dX7_leastCost_22 ?_
      refine lv_istore (lv' := [(5, .int (q12 + 1)), (4, .int 1000000), (3, .int q12), (0, .ref a0), (1, .int x1), (2, .int x2)]) hx hb dX7_leastCost_23 hl (by decide) rfl (fun ls hl => ?_)
      have L25 : ∀ (n : Nat) (L25_x4 : Int32) (L25_x5 : Int32) (X : Int32), f_X7_leastCost_lvl4_L25 K p0 x1 x2 q12 n L25_x4 L25_x5 = some X → ∀ (H : Heap) (locs : List Loc), mm_S G A s.heap w H locs → ∀ (ls : Array Slot), lv_has ls 7 [(0, .ref a0), (1, .int x1), (2, .int x2), (3, .int q12), (4, .int L25_x4), (5, .int L25_x5)] → (∀ (H : Heap) (locs : List Loc), mm_S G A s.heap w H locs → ∀ (ls : Array Slot), lv_has ls 7 [(4, .int X)] → W p l e ({ frames := 5, cells := 0, slots := 0, locals := 120 } : Room) s m args below meth c H locs 0 0 Q (F0 m 82 ls [])) → W p l e ({ frames := 5, cells := 0, slots := 0, locals := 120 } : Room) s m args below meth c H locs 0 0 Q (F0 m 25 ls []) := by
        intro n
        induction n with
        | zero => intro L25_x4 L25_x5 X hf; cases hf
        | succ n ih =>
          intro L25_x4 L25_x5 X hf H locs hM ls hl hk
          rw [f_X7_leastCost_lvl4_L25] at hf
          refine lv_iload hx hb dX7_leastCost_25 (lv_at hl 5 rfl) ?_
          refine lv_bipush (v := 8) hx hb dX7_leastCost_27 (by decide) ?_
          refine lv_icmp_ge (tgt := 82) hx hb dX7_leastCost_29 (by decide) (fun hcd => ?_) (fun hcd => ?_)
          · rw [if_pos hcd] at hf
            cases hf
            exact hk _ _ hM _ (lv_sub hl [4] rfl)
          · rw [if_neg hcd] at hf
            refine lv_iload_n hx hb dX7_leastCost_32 rfl (lv_at hl 1 rfl) ?_
            refine lv_iload hx hb dX7_leastCost_33 (lv_at hl 5 rfl) ?_
            obtain ⟨q35, hq35, hf⟩ := mm_bd hf
            refine mm_Si (rest := []) hC hM (c_X7_holds l hq35) q3_41 q1_9 ykX7_holds q3_39 q3_40 ⟨rfl, rfl⟩ ⟨Nat.le_of_ble_eq_true rfl, Nat.le_of_ble_eq_true rfl⟩ rfl hl.1 rfl (Nat.le_of_ble_eq_true rfl) dX7_leastCost_35 ⟨Nat.le_of_ble_eq_true rfl, Nat.le_of_ble_eq_true rfl⟩ (fun r w35 H locs hM hw => ?_)
            obtain ⟨hr, hw⟩ := hw
            rw [hr]
            rw [hw] at hM
            refine lv_if_eq (tgt := 76) hx hb dX7_leastCost_38 (by decide) (fun hcd => ?_) (fun hcd => ?_)
            · rw [if_pos hcd] at hf
              refine lv_iinc (v := (L25_x5 + 1)) (lv' := [(5, .int (L25_x5 + 1)), (0, .ref a0), (1, .int x1), (2, .int x2), (3, .int q12), (4, .int L25_x4)]) hx hb dX7_leastCost_76 hl (k := 5) rfl rfl (by decide) rfl (fun ls hl => ?_)
              refine lv_goto (tgt := 25) hx hb dX7_leastCost_79 (by decide) ?_
              exact ih _ _ _ hf _ _ hM _ (lv_sub hl [1, 2, 3, 4, 5, 0] rfl) hk
            · rw [if_neg hcd] at hf
              refine lv_aload_n hx hb dX7_leastCost_41 rfl (lv_at hl 0 rfl) ?_
              refine lv_iload_n hx hb dX7_leastCost_42 rfl (lv_at hl 1 rfl) ?_
              refine lv_iload_n hx hb dX7_leastCost_43 rfl (lv_at hl 3 rfl) ?_
              refine lv_iload hx hb dX7_leastCost_44 (lv_at hl 5 rfl) ?_
              obtain ⟨q46, hq46, hf⟩ := mm_bd hf
              refine mm_Si (rest := [.ref a0]) hC hM (c_X7_without l hq46) q3_49 q1_9 ykX7_without q3_47 q3_48 ⟨rfl, rfl⟩ ⟨Nat.le_of_ble_eq_true rfl, Nat.le_of_ble_eq_true rfl⟩ rfl hl.1 rfl (Nat.le_of_ble_eq_true rfl) dX7_leastCost_46 ⟨Nat.le_of_ble_eq_true rfl, Nat.le_of_ble_eq_true rfl⟩ (fun r w46 H locs hM hw => ?_)
              obtain ⟨hr, hw⟩ := hw
              rw [hr]
              rw [hw] at hM
              refine lv_iload_n hx hb dX7_leastCost_49 rfl (lv_at hl 2 rfl) ?_
              refine lv_iconst (v := 1) hx hb dX7_leastCost_50 (by decide) ?_
              refine lv_iadd hx hb dX7_leastCost_51 ?_
              obtain ⟨q52, hq52, hf⟩ := mm_bd hf
              refine mm_Si (rest := []) hC hM (c_X7_leastCost_lvl3 l hq52 hp_p0) q3_57 q1_9 ykX7_leastCost q3_55 q3_56 ⟨rfl, rfl⟩ ⟨Nat.le_of_ble_eq_true rfl, Nat.le_of_ble_eq_true rfl⟩ rfl hl.1 rfl (Nat.le_of_ble_eq_true rfl) dX7_leastCost_52 ⟨Nat.le_of_ble_eq_true rfl, Nat.le_of_ble_eq_true rfl⟩ (fun r w52 H locs hM hw => ?_)
              obtain ⟨hr, hw⟩ := hw
              rw [hr]
              rw [hw] at hM
              refine lv_istore (lv' := [(6, .int q52), (0, .ref a0), (1, .int x1), (2, .int x2), (3, .int q12), (4, .int L25_x4), (5, .int L25_x5)]) hx hb dX7_leastCost_55 hl (by decide) rfl (fun ls hl => ?_)
              refine lv_iload hx hb dX7_leastCost_57 (lv_at hl 5 rfl) ?_
              refine lv_aload_n hx hb dX7_leastCost_59 rfl (lv_at hl 1 rfl) ?_
              refine lv_iload_n hx hb dX7_leastCost_60 rfl (lv_at hl 4 rfl) ?_
              refine lv_bipush (v := 8) hx hb dX7_leastCost_61 (by decide) ?_
              refine lv_imul hx hb dX7_leastCost_63 ?_
              refine lv_iload hx hb dX7_leastCost_64 (lv_at hl 6 rfl) ?_
              refine lv_iadd hx hb dX7_leastCost_66 ?_
              obtain ⟨hg67, hf⟩ := mm_gd hf
              refine mm_iald hC hM hp_p0 hg67 dX7_leastCost_67 ?_
              refine lv_iload hx hb dX7_leastCost_68 (lv_at hl 0 rfl) ?_
              refine lv_iadd hx hb dX7_leastCost_70 ?_
              refine va_mmin hx hb (hC.1.2.2.1.trans hl.1.symm) hC.1.2.2.2.1 (hC.1.2.2.2.2 _ q3_50) (hC.1.2.2.2.2 _ q3_27) (hC.1.2.2.2.2 _ q1_24) (hC.1.2.2.2.2 _ q3_28) (Nat.le_of_ble_eq_true rfl) (Nat.le_of_ble_eq_true rfl) (Nat.le_of_ble_eq_true rfl) (Nat.le_of_ble_eq_true rfl) dX7_leastCost_71 ?_
              refine lv_istore (lv' := [(4, .int (if ((p0 ((q12 * 8) + L25_x5).toNatClampNeg) + q52) < L25_x4 then ((p0 ((q12 * 8) + L25_x5).toNatClampNeg) + q52) else L25_x4)), (6, .int q52), (0, .ref a0), (1, .int x1), (2, .int x2), (3, .int q12), (5, .int L25_x5)]) hx hb dX7_leastCost_74 hl (by decide) rfl (fun ls hl => ?_)
              refine lv_iinc (v := (L25_x5 + 1)) (lv' := [(5, .int (L25_x5 + 1)), (4, .int (if ((p0 ((q12 * 8) + L25_x5).toNatClampNeg) + q52) < L25_x4 then ((p0 ((q12 * 8) + L25_x5).toNatClampNeg) + q52) else L25_x4)), (6, .int q52), (0, .ref a0), (1, .int x1), (2, .int x2), (3, .int q12)]) hx hb dX7_leastCost_76 hl (k := 6) rfl rfl (by decide) rfl (fun ls hl => ?_)
              refine lv_goto (tgt := 25) hx hb dX7_leastCost_79 (by decide) ?_
              exact ih _ _ _ hf _ _ hM _ (lv_sub hl [3, 4, 5, 6, 1, 0] rfl) hk
      obtain ⟨q25, hq25, hf⟩ := mm_bd hf
      refine L25 K _ _ _ hq25 _ _ hM _ (lv_sub hl [3, 4, 5, 2, 1, 0] rfl) (fun H locs hM ls hl => ?_)
      refine lv_iload hx hb dX7_leastCost_82 (lv_at hl 0 rfl) ?_
      cases hf
      exact hret hM dX7_leastCost_84 rfl ⟨rfl, rfl⟩
    · rw [if_neg hcd] at hf
      refine lv_iconst (v := 0) hx hb dX7_leastCost_9 (by decide) ?_
      cases hf
      exact hret hM dX7_leastCost_10 rfl ⟨rfl, rfl⟩
def f_X7_leastCost_lvl5_L25 (K : Nat) (p0 : Nat → Int32) (x1 : Int32) (x2 : Int32) (x3 : Int32) : Nat → (Int32) → (Int32) → Option (Int32)
  | 0, _, _ => none
  | n + 1, x4, x5 => if 8 ≤ x5 then some x4 else (f_X7_holds x1 x5).bind fun q35 => if q35 = 0 then f_X7_leastCost_lvl5_L25 K p0 x1 x2 x3 n x4 (x5 + 1) else (f_X7_without x1 x3 x5).bind fun q46 => (f_X7_leastCost_lvl4 K p0 q46 (x2 + 1)).bind fun q52 => mm_g (mm_ck ((x3 * 8) + x5) 64) (f_X7_leastCost_lvl5_L25 K p0 x1 x2 x3 n (if ((p0 ((x3 * 8) + x5).toNatClampNeg) + q52) < x4 then ((p0 ((x3 * 8) + x5).toNatClampNeg) + q52) else x4) (x5 + 1))
def f_X7_leastCost_lvl5 (K : Nat) (p0 : Nat → Int32) (x1 : Int32) (x2 : Int32) : Option (Int32) := if x1 = 0 then some 0 else if x2 < 4 then (f_X7_firstOf K x1).bind fun q12 => (f_X7_leastCost_lvl5_L25 K p0 x1 x2 q12 K 1000000 (q12 + 1)).bind fun q25 => some q25 else some 0
set_option maxHeartbeats 4000000 in
set_option maxRecDepth 100000 in
theorem c_X7_leastCost_lvl5 (l : Launch) {G : mm_G} {K : Nat} {w : va_W} {sz : Nat} {a0 : Nat} {p0 : Nat → Int32} {x1 : Int32} {x2 : Int32} {X : Int32} (hf : f_X7_leastCost_lvl5 K p0 x1 x2 = some X) (hp_p0 : (a0, (.inl (G.2 0, 64, .inl p0) : va_E)) ∈ w) : Met l yX7_leastCost (Cond.code yX7_leastCost cX7_leastCost 7 (some .int) :: gAll) ({ frames := 6, cells := 0, slots := 0, locals := 146 }) (va_Pc [.ref a0, .int x1, .int x2] (mm_Pre G w sz)) (mm_Qi G w sz (fun r w' => r = X ∧ w' = w)) 0 0 (va_A w sz) := by
  refine mm_headI [.ref a0, .int x1, .int x2] (by decide +kernel) rfl (Nat.le_of_ble_eq_true rfl) ?_
  intro p e s m args below meth c A Q hsz hC hM hret ls hl
  have hx := hC.1.1
  have hb := hC.1.2.1
  have hl : lv_has ls 7 [(0, .ref a0), (1, .int x1), (2, .int x2)] := hl
  rw [f_X7_leastCost_lvl5] at hf
  refine lv_iload_n hx hb dX7_leastCost_0 rfl (lv_at hl 1 rfl) ?_
  refine lv_if_eq (tgt := 9) hx hb dX7_leastCost_1 (by decide) (fun hcd => ?_) (fun hcd => ?_)
  · rw [if_pos hcd] at hf
    refine lv_iconst (v := 0) hx hb dX7_leastCost_9 (by decide) ?_
    cases hf
    exact hret hM dX7_leastCost_10 rfl ⟨rfl, rfl⟩
  · rw [if_neg hcd] at hf
    refine lv_iload_n hx hb dX7_leastCost_4 rfl (lv_at hl 2 rfl) ?_
    refine lv_iconst (v := 4) hx hb dX7_leastCost_5 (by decide) ?_
    refine lv_icmp_lt (tgt := 11) hx hb dX7_leastCost_6 (by decide) (fun hcd => ?_) (fun hcd => ?_)
    · rw [if_pos hcd] at hf
      refine lv_iload_n hx hb dX7_leastCost_11 rfl (lv_at hl 1 rfl) ?_
      obtain ⟨q12, hq12, hf⟩ := mm_bd hf
      refine mm_Si (rest := []) hC hM (c_X7_firstOf l hq12) q3_38 q1_9 ykX7_firstOf q3_36 q3_37 ⟨rfl, rfl⟩ ⟨Nat.le_of_ble_eq_true rfl, Nat.le_of_ble_eq_true rfl⟩ rfl hl.1 rfl (Nat.le_of_ble_eq_true rfl) dX7_leastCost_12 ⟨Nat.le_of_ble_eq_true rfl, Nat.le_of_ble_eq_true rfl⟩ (fun r w12 H locs hM hw => ?_)
      obtain ⟨hr, hw⟩ := hw
      rw [hr]
      rw [hw] at hM
      refine lv_istore_n (lv' := [(3, .int q12), (0, .ref a0), (1, .int x1), (2, .int x2)]) hx hb dX7_leastCost_15 rfl hl (by decide) rfl (fun ls hl => ?_)
      refine lv_ldc hx hb hC.1.2.2.2.1 (hC.1.2.2.2.2 _ q3_42) dX7_leastCost_16 ?_
      refine lv_istore (lv' := [(4, .int 1000000), (3, .int q12), (0, .ref a0), (1, .int x1), (2, .int x2)]) hx hb dX7_leastCost_18 hl (by decide) rfl (fun ls hl => ?_)
      refine lv_iload_n hx hb dX7_leastCost_20 rfl (lv_at hl 1 rfl) ?_
      refine lv_iconst (v := 1) hx hb dX7_leastCost_21 (by decide) ?_
      refine lv_iadd hx hb dX7_leastCost_22 ?_
      refine lv_istore (lv' := [(5, .int (q12 + 1)), (4, .int 1000000), (3, .int q12), (0, .ref a0), (1, .int x1), (2, .int x2)]) hx hb dX7_leastCost_23 hl (by decide) rfl (fun ls hl => ?_)
      have L25 : ∀ (n : Nat) (L25_x4 : Int32) (L25_x5 : Int32) (X : Int32), f_X7_leastCost_lvl5_L25 K p0 x1 x2 q12 n L25_x4 L25_x5 = some X → ∀ (H : Heap) (locs : List Loc), mm_S G A s.heap w H locs → ∀ (ls : Array Slot), lv_has ls 7 [(0, .ref a0), (1, .int x1), (2, .int x2), (3, .int q12), (4, .int L25_x4), (5, .int L25_x5)] → (∀ (H : Heap) (locs : List Loc), mm_S G A s.heap w H locs → ∀ (ls : Array Slot), lv_has ls 7 [(4, .int X)] → W p l e ({ frames := 6, cells := 0, slots := 0, locals := 146 } : Room) s m args below meth c H locs 0 0 Q (F0 m 82 ls [])) → W p l e ({ frames := 6, cells := 0, slots := 0, locals := 146 } : Room) s m args below meth c H locs 0 0 Q (F0 m 25 ls []) := by
        intro n
        induction n with
        | zero => intro L25_x4 L25_x5 X hf; cases hf
        | succ n ih =>
          intro L25_x4 L25_x5 X hf H locs hM ls hl hk
          rw [f_X7_leastCost_lvl5_L25] at hf
          refine lv_iload hx hb dX7_leastCost_25 (lv_at hl 5 rfl) ?_
          refine lv_bipush (v := 8) hx hb dX7_leastCost_27 (by decide) ?_
          refine lv_icmp_ge (tgt := 82) hx hb dX7_leastCost_29 (by decide) (fun hcd => ?_) (fun hcd => ?_)
          · rw [if_pos hcd] at hf
            cases hf
            exact hk _ _ hM _ (lv_sub hl [4] rfl)
          · rw [if_neg hcd] at hf
            refine lv_iload_n hx hb dX7_leastCost_32 rfl (lv_at hl 1 rfl) ?_
            refine lv_iload hx hb dX7_leastCost_33 (lv_at hl 5 rfl) ?_
            obtain ⟨q35, hq35, hf⟩ := mm_bd hf
            refine mm_Si (rest := []) hC hM (c_X7_holds l hq35) q3_41 q1_9 ykX7_holds q3_39 q3_40 ⟨rfl, rfl⟩ ⟨Nat.le_of_ble_eq_true rfl, Nat.le_of_ble_eq_true rfl⟩ rfl hl.1 rfl (Nat.le_of_ble_eq_true rfl) dX7_leastCost_35 ⟨Nat.le_of_ble_eq_true rfl, Nat.le_of_ble_eq_true rfl⟩ (fun r w35 H locs hM hw => ?_)
            obtain ⟨hr, hw⟩ := hw
            rw [hr]
            rw [hw] at hM
            refine lv_if_eq (tgt := 76) hx hb dX7_leastCost_38 (by decide) (fun hcd => ?_) (fun hcd => ?_)
            · rw [if_pos hcd] at hf
              refine lv_iinc (v := (L25_x5 + 1)) (lv' := [(5, .int (L25_x5 + 1)), (0, .ref a0), (1, .int x1), (2, .int x2), (3, .int q12), (4, .int L25_x4)]) hx hb dX7_leastCost_76 hl (k := 5) rfl rfl (by decide) rfl (fun ls hl => ?_)
              refine lv_goto (tgt := 25) hx hb dX7_leastCost_79 (by decide) ?_
              exact ih _ _ _ hf _ _ hM _ (lv_sub hl [1, 2, 3, 4, 5, 0] rfl) hk
            · rw [if_neg hcd] at hf
              refine lv_aload_n hx hb dX7_leastCost_41 rfl (lv_at hl 0 rfl) ?_
              refine lv_iload_n hx hb dX7_leastCost_42 rfl (lv_at hl 1 rfl) ?_
              refine lv_iload_n hx hb dX7_leastCost_43 rfl (lv_at hl 3 rfl) ?_
              refine lv_iload hx hb dX7_leastCost_44 (lv_at hl 5 rfl) ?_
              obtain ⟨q46, hq46, hf⟩ := mm_bd hf
              refine mm_Si (rest := [.ref a0]) hC hM (c_X7_without l hq46) q3_49 q1_9 ykX7_without q3_47 q3_48 ⟨rfl, rfl⟩ ⟨Nat.le_of_ble_eq_true rfl, Nat.le_of_ble_eq_true rfl⟩ rfl hl.1 rfl (Nat.le_of_ble_eq_true rfl) dX7_leastCost_46 ⟨Nat.le_of_ble_eq_true rfl, Nat.le_of_ble_eq_true rfl⟩ (fun r w46 H locs hM hw => ?_)
              obtain ⟨hr, hw⟩ := hw
              rw [hr]
              rw [hw] at hM
              refine lv_iload_n hx hb dX7_leastCost_49 rfl (lv_at hl 2 rfl) ?_
              refine lv_iconst (v := 1) hx hb dX7_leastCost_50 (by decide) ?_
              refine lv_iadd hx hb dX7_leastCost_51 ?_
              obtain ⟨q52, hq52, hf⟩ := mm_bd hf
              refine mm_Si (rest := []) hC hM (c_X7_leastCost_lvl4 l hq52 hp_p0) q3_57 q1_9 ykX7_leastCost q3_55 q3_56 ⟨rfl, rfl⟩ ⟨Nat.le_of_ble_eq_true rfl, Nat.le_of_ble_eq_true rfl⟩ rfl hl.1 rfl (Nat.le_of_ble_eq_true rfl) dX7_leastCost_52 ⟨Nat.le_of_ble_eq_true rfl, Nat.le_of_ble_eq_true rfl⟩ (fun r w52 H locs hM hw => ?_)
              obtain ⟨hr, hw⟩ := hw
              rw [hr]
              rw [hw] at hM
              refine lv_istore (lv' := [(6, .int q52), (0, .ref a0), (1, .int x1), (2, .int x2), (3, .int q12), (4, .int L25_x4), (5, .int L25_x5)]) hx hb dX7_leastCost_55 hl (by decide) rfl (fun ls hl => ?_)
              refine lv_iload hx hb dX7_leastCost_57 (lv_at hl 5 rfl) ?_
              refine lv_aload_n hx hb dX7_leastCost_59 rfl (lv_at hl 1 rfl) ?_
              refine lv_iload_n hx hb dX7_leastCost_60 rfl (lv_at hl 4 rfl) ?_
              refine lv_bipush (v := 8) hx hb dX7_leastCost_61 (by decide) ?_
              refine lv_imul hx hb dX7_leastCost_63 ?_
              refine lv_iload hx hb dX7_leastCost_64 (lv_at hl 6 rfl) ?_
              refine lv_iadd hx hb dX7_leastCost_66 ?_
              obtain ⟨hg67, hf⟩ := mm_gd hf
              refine mm_iald hC hM hp_p0 hg67 dX7_leastCost_67 ?_
              refine lv_iload hx hb dX7_leastCost_68 (lv_at hl 0 rfl) ?_
              refine lv_iadd hx hb dX7_leastCost_70 ?_
              refine va_mmin hx hb (hC.1.2.2.1.trans hl.1.symm) hC.1.2.2.2.1 (hC.1.2.2.2.2 _ q3_50) (hC.1.2.2.2.2 _ q3_27) (hC.1.2.2.2.2 _ q1_24) (hC.1.2.2.2.2 _ q3_28) (Nat.le_of_ble_eq_true rfl) (Nat.le_of_ble_eq_true rfl) (Nat.le_of_ble_eq_true rfl) (Nat.le_of_ble_eq_true rfl) dX7_leastCost_71 ?_
              refine lv_istore (lv' := [(4, .int (if ((p0 ((q12 * 8) + L25_x5).toNatClampNeg) + q52) < L25_x4 then ((p0 ((q12 * 8) + L25_x5).toNatClampNeg) + q52) else L25_x4)), (6, .int q52), (0, .ref a0), (1, .int x1), (2, .int x2), (3, .int q12), (5, .int L25_x5)]) hx hb dX7_leastCost_74 hl (by decide) rfl (fun ls hl => ?_)
              refine lv_iinc (v := (L25_x5 + 1)) (lv' := [(5, .int (L25_x5 + 1)), (4, .int (if ((p0 ((q12 * 8) + L25_x5).toNatClampNeg) + q52) < L25_x4 then ((p0 ((q12 * 8) + L25_x5).toNatClampNeg) + q52) else L25_x4)), (6, .int q52), (0, .ref a0), (1, .int x1), (2, .int x2), (3, .int q12)]) hx hb dX7_leastCost_76 hl (k := 6) rfl rfl (by decide) rfl (fun ls hl => ?_)
              refine lv_goto (tgt := 25) hx hb dX7_leastCost_79 (by decide) ?_
              exact ih _ _ _ hf _ _ hM _ (lv_sub hl [3, 4, 5, 6, 1, 0] rfl) hk
      obtain ⟨q25, hq25, hf⟩ := mm_bd hf
      refine L25 K _ _ _ hq25 _ _ hM _ (lv_sub hl [3, 4, 5, 2, 1, 0] rfl) (fun H locs hM ls hl => ?_)
      refine lv_iload hx hb dX7_leastCost_82 (lv_at hl 0 rfl) ?_
      cases hf
      exact hret hM dX7_leastCost_84 rfl ⟨rfl, rfl⟩
    · rw [if_neg hcd] at hf
      refine lv_iconst (v := 0) hx hb dX7_leastCost_9 (by decide) ?_
      cases hf
      exact hret hM dX7_leastCost_10 rfl ⟨rfl, rfl⟩
def f_X7_costByTrying (K : Nat) (costs : Nat → Int32) (p1_cells : Nat → Int32) (p1_count : Int32) : Option (Int32 × (Nat → Int32)) := (f_X7_fillCosts K costs p1_cells p1_count).bind fun q2 => (f_X7_allOf p1_count).bind fun q13 => (f_X7_leastCost_lvl5 K q2 q13 0).bind fun q17 => some (q17, q2)
set_option maxHeartbeats 4000000 in
set_option maxRecDepth 100000 in
theorem c_X7_costByTrying (l : Launch) {G : mm_G} {K : Nat} {w : va_W} {sz : Nat} {b : Nat} {b1 : Nat} {costs : Nat → Int32} {best : Nat → Int32} {p1_cells : Nat → Int32} {p1_count : Int32} {X : Int32 × (Nat → Int32)} (hf : f_X7_costByTrying K costs p1_cells p1_count = some X) (hp_this : At7 G w b costs best) (hp_p1 : At5 G w b1 p1_cells p1_count) (hd0 : b + 3 ≤ b1 ∨ b1 + 2 ≤ b) : Met l yX7_costByTrying (Cond.code yX7_costByTrying cX7_costByTrying 2 (some .int) :: gAll) ({ frames := 7, cells := 0, slots := 0, locals := 172 }) (va_Pc [.ref b, .ref b1] (mm_Pre G w sz)) (mm_Qi G w sz (fun r w' => r = X.1 ∧ At7 G w' b X.2 best ∧ mm_fr w w' b (b + 3))) 0 0 (va_A w sz) := by
  refine mm_headI [.ref b, .ref b1] (by decide +kernel) rfl (Nat.le_of_ble_eq_true rfl) ?_
  intro p e s m args below meth c A Q hsz hC hM hret ls hl
  have hx := hC.1.1
  have hb := hC.1.2.1
  have hl : lv_has ls 2 [(0, .ref b), (1, .ref b1)] := hl
  have hF : mm_fr w w b (b + 3) := mm_fr.rf
  rw [f_X7_costByTrying] at hf
  refine lv_aload_n hx hb dX7_costByTrying_0 rfl (lv_at hl 0 rfl) ?_
  refine lv_aload_n hx hb dX7_costByTrying_1 rfl (lv_at hl 1 rfl) ?_
  obtain ⟨q2, hq2, hf⟩ := mm_bd hf
  refine mm_Vv (rest := []) hC hM (c_X7_fillCosts l hq2 hp_this hp_p1 (by omega)) q3_10 q1_9 ykX7_fillCosts q3_7 q3_9 qp_90daf7f7 hp_this.1 rfl ⟨rfl, rfl⟩ ⟨Nat.le_of_ble_eq_true rfl, Nat.le_of_ble_eq_true rfl⟩ rfl hl.1 rfl (Nat.le_of_ble_eq_true rfl) dX7_costByTrying_2 ⟨Nat.le_of_ble_eq_true rfl, Nat.le_of_ble_eq_true rfl⟩ (fun w2 H locs hM hw => ?_)
  obtain ⟨hn_this, hfr⟩ := hw
  have hp_p1 := hp_p1.keep hfr (by omega)
  have hp_this := hn_this
  have hF := hF.tr (hfr.wide (by omega) (by omega))
  refine lv_aload_n hx hb dX7_costByTrying_5 rfl (lv_at hl 0 rfl) ?_
  refine mm_get hC hM (k := 0) hp_this.1 rfl inAX7 (by decide) q1_214 rfl dX7_costByTrying_6 ?_
  refine lv_aload_n hx hb dX7_costByTrying_9 rfl (lv_at hl 1 rfl) ?_
  refine mm_get hC hM (k := 1) hp_p1.1 rfl inAX5 (by decide) q1_130 rfl dX7_costByTrying_10 ?_
  obtain ⟨q13, hq13, hf⟩ := mm_bd hf
  refine mm_Si (rest := [.ref (b + 1)]) hC hM (c_X7_allOf l hq13) q3_35 q1_9 ykX7_allOf q3_33 q3_34 ⟨rfl, rfl⟩ ⟨Nat.le_of_ble_eq_true rfl, Nat.le_of_ble_eq_true rfl⟩ rfl hl.1 rfl (Nat.le_of_ble_eq_true rfl) dX7_costByTrying_13 ⟨Nat.le_of_ble_eq_true rfl, Nat.le_of_ble_eq_true rfl⟩ (fun r w13 H locs hM hw => ?_)
  obtain ⟨hr, hw⟩ := hw
  rw [hr]
  rw [hw] at hM
  refine lv_iconst (v := 0) hx hb dX7_costByTrying_16 (by decide) ?_
  obtain ⟨q17, hq17, hf⟩ := mm_bd hf
  refine mm_Si (rest := []) hC hM (c_X7_leastCost_lvl5 l hq17 (hp_this.2.1)) q3_57 q1_9 ykX7_leastCost q3_55 q3_56 ⟨rfl, rfl⟩ ⟨Nat.le_of_ble_eq_true rfl, Nat.le_of_ble_eq_true rfl⟩ rfl hl.1 rfl (Nat.le_of_ble_eq_true rfl) dX7_costByTrying_17 ⟨Nat.le_of_ble_eq_true rfl, Nat.le_of_ble_eq_true rfl⟩ (fun r w17 H locs hM hw => ?_)
  obtain ⟨hr, hw⟩ := hw
  rw [hr]
  rw [hw] at hM
  cases hf
  exact hret hM dX7_costByTrying_20 rfl ⟨rfl, hp_this, hF⟩
def f_X7_firstBestPartner_L9 (costs : Nat → Int32) (best : Nat → Int32) (x1 : Int32) (x2 : Int32) : Nat → (Int32) → Option (Int32)
  | 0, _ => none
  | n + 1, x3 => if 8 ≤ x3 then some x2 else (f_X7_holds x1 x3).bind fun q17 => if q17 = 0 then f_X7_firstBestPartner_L9 costs best x1 x2 n (x3 + 1) else (f_X7_costOfChoice costs best x1 x2 x3).bind fun q27 => mm_g (mm_ck x1 256) (if q27 = (best x1.toNatClampNeg) then some x3 else f_X7_firstBestPartner_L9 costs best x1 x2 n (x3 + 1))
def f_X7_firstBestPartner (K : Nat) (costs : Nat → Int32) (best : Nat → Int32) (x1 : Int32) : Option (Int32) := (f_X7_firstOf K x1).bind fun q1 => f_X7_firstBestPartner_L9 costs best x1 q1 K (q1 + 1)
set_option maxHeartbeats 4000000 in
set_option maxRecDepth 100000 in
theorem c_X7_firstBestPartner (l : Launch) {G : mm_G} {K : Nat} {w : va_W} {sz : Nat} {b : Nat} {costs : Nat → Int32} {best : Nat → Int32} {x1 : Int32} {X : Int32} (hf : f_X7_firstBestPartner K costs best x1 = some X) (hp_this : At7 G w b costs best) : Met l yX7_firstBestPartner (Cond.code yX7_firstBestPartner cX7_firstBestPartner 4 (some .int) :: gAll) ({ frames := 2, cells := 0, slots := 0, locals := 45 }) (va_Pc [.ref b, .int x1] (mm_Pre G w sz)) (mm_Qi G w sz (fun r w' => r = X ∧ w' = w)) 0 0 (va_A w sz) := by
  refine mm_headI [.ref b, .int x1] (by decide +kernel) rfl (Nat.le_of_ble_eq_true rfl) ?_
  intro p e s m args below meth c A Q hsz hC hM hret ls hl
  have hx := hC.1.1
  have hb := hC.1.2.1
  have hl : lv_has ls 4 [(0, .ref b), (1, .int x1)] := hl
  rw [f_X7_firstBestPartner] at hf
  refine lv_iload_n hx hb dX7_firstBestPartner_0 rfl (lv_at hl 1 rfl) ?_
  obtain ⟨q1, hq1, hf⟩ := mm_bd hf
  refine mm_Si (rest := []) hC hM (c_X7_firstOf l hq1) q3_38 q1_9 ykX7_firstOf q3_36 q3_37 ⟨rfl, rfl⟩ ⟨Nat.le_of_ble_eq_true rfl, Nat.le_of_ble_eq_true rfl⟩ rfl hl.1 rfl (Nat.le_of_ble_eq_true rfl) dX7_firstBestPartner_1 ⟨Nat.le_of_ble_eq_true rfl, Nat.le_of_ble_eq_true rfl⟩ (fun r w1 H locs hM hw => ?_)
  obtain ⟨hr, hw⟩ := hw
  rw [hr]
  rw [hw] at hM
  refine lv_istore_n (lv' := [(2, .int q1), (0, .ref b), (1, .int x1)]) hx hb dX7_firstBestPartner_4 rfl hl (by decide) rfl (fun ls hl => ?_)
  refine lv_iload_n hx hb dX7_firstBestPartner_5 rfl (lv_at hl 0 rfl) ?_
  refine lv_iconst (v := 1) hx hb dX7_firstBestPartner_6 (by decide) ?_
  refine lv_iadd hx hb dX7_firstBestPartner_7 ?_
  refine lv_istore_n (lv' := [(3, .int (q1 + 1)), (2, .int q1), (0, .ref b), (1, .int x1)]) hx hb dX7_firstBestPartner_8 rfl hl (by decide) rfl (fun ls hl => ?_)
  have L9 : ∀ (n : Nat) (L9_x3 : Int32), f_X7_firstBestPartner_L9 costs best x1 q1 n L9_x3 = some X → ∀ (H : Heap) (locs : List Loc), mm_S G A s.heap w H locs → ∀ (ls : Array Slot), lv_has ls 4 [(0, .ref b), (1, .int x1), (2, .int q1), (3, .int L9_x3)] → W p l e ({ frames := 2, cells := 0, slots := 0, locals := 45 } : Room) s m args below meth c H locs 0 0 Q (F0 m 9 ls []) := by
    intro n
    induction n with
    | zero => intro L9_x3 hf; cases hf
    | succ n ih =>
      intro L9_x3 hf H locs hM ls hl
      rw [f_X7_firstBestPartner_L9] at hf
      refine lv_iload_n hx hb dX7_firstBestPartner_9 rfl (lv_at hl 3 rfl) ?_
      refine lv_bipush (v := 8) hx hb dX7_firstBestPartner_10 (by decide) ?_
      refine lv_icmp_ge (tgt := 47) hx hb dX7_firstBestPartner_12 (by decide) (fun hcd => ?_) (fun hcd => ?_)
      · rw [if_pos hcd] at hf
        refine lv_iload_n hx hb dX7_firstBestPartner_47 rfl (lv_at hl 2 rfl) ?_
        cases hf
        exact hret hM dX7_firstBestPartner_48 rfl ⟨rfl, rfl⟩
      · rw [if_neg hcd] at hf
        refine lv_iload_n hx hb dX7_firstBestPartner_15 rfl (lv_at hl 1 rfl) ?_
        refine lv_iload_n hx hb dX7_firstBestPartner_16 rfl (lv_at hl 3 rfl) ?_
        obtain ⟨q17, hq17, hf⟩ := mm_bd hf
        refine mm_Si (rest := []) hC hM (c_X7_holds l hq17) q3_41 q1_9 ykX7_holds q3_39 q3_40 ⟨rfl, rfl⟩ ⟨Nat.le_of_ble_eq_true rfl, Nat.le_of_ble_eq_true rfl⟩ rfl hl.1 rfl (Nat.le_of_ble_eq_true rfl) dX7_firstBestPartner_17 ⟨Nat.le_of_ble_eq_true rfl, Nat.le_of_ble_eq_true rfl⟩ (fun r w17 H locs hM hw => ?_)
        obtain ⟨hr, hw⟩ := hw
        rw [hr]
        rw [hw] at hM
        refine lv_if_eq (tgt := 41) hx hb dX7_firstBestPartner_20 (by decide) (fun hcd => ?_) (fun hcd => ?_)
        · rw [if_pos hcd] at hf
          refine lv_iinc (v := (L9_x3 + 1)) (lv' := [(3, .int (L9_x3 + 1)), (0, .ref b), (1, .int x1), (2, .int q1)]) hx hb dX7_firstBestPartner_41 hl (k := 3) rfl rfl (by decide) rfl (fun ls hl => ?_)
          refine lv_goto (tgt := 9) hx hb dX7_firstBestPartner_44 (by decide) ?_
          exact ih _ hf _ _ hM _ (lv_sub hl [1, 2, 3, 0] rfl)
        · rw [if_neg hcd] at hf
          refine lv_aload_n hx hb dX7_firstBestPartner_23 rfl (lv_at hl 0 rfl) ?_
          refine lv_iload_n hx hb dX7_firstBestPartner_24 rfl (lv_at hl 1 rfl) ?_
          refine lv_iload_n hx hb dX7_firstBestPartner_25 rfl (lv_at hl 2 rfl) ?_
          refine lv_iload_n hx hb dX7_firstBestPartner_26 rfl (lv_at hl 3 rfl) ?_
          obtain ⟨q27, hq27, hf⟩ := mm_bd hf
          refine mm_Vi (rest := []) hC hM (c_X7_costOfChoice l hq27 hp_this) q3_46 q1_9 ykX7_costOfChoice q3_43 q3_45 qp_6d152ed2 hp_this.1 rfl ⟨rfl, rfl⟩ ⟨Nat.le_of_ble_eq_true rfl, Nat.le_of_ble_eq_true rfl⟩ rfl hl.1 rfl (Nat.le_of_ble_eq_true rfl) dX7_firstBestPartner_27 ⟨Nat.le_of_ble_eq_true rfl, Nat.le_of_ble_eq_true rfl⟩ (fun r w27 H locs hM hw => ?_)
          obtain ⟨hr, hw⟩ := hw
          rw [hr]
          rw [hw] at hM
          refine lv_aload_n hx hb dX7_firstBestPartner_30 rfl (lv_at hl 0 rfl) ?_
          refine mm_get hC hM (k := 1) hp_this.1 rfl inAX7 (by decide) q1_215 rfl dX7_firstBestPartner_31 ?_
          refine lv_iload_n hx hb dX7_firstBestPartner_34 rfl (lv_at hl 1 rfl) ?_
          obtain ⟨hg35, hf⟩ := mm_gd hf
          refine mm_iald hC hM (hp_this.2.2) hg35 dX7_firstBestPartner_35 ?_
          refine lv_icmp_ne (tgt := 41) hx hb dX7_firstBestPartner_36 (by decide) (fun hcd => ?_) (fun hcd => ?_)
          · rw [if_neg hcd] at hf
            refine lv_iinc (v := (L9_x3 + 1)) (lv' := [(3, .int (L9_x3 + 1)), (0, .ref b), (1, .int x1), (2, .int q1)]) hx hb dX7_firstBestPartner_41 hl (k := 3) rfl rfl (by decide) rfl (fun ls hl => ?_)
            refine lv_goto (tgt := 9) hx hb dX7_firstBestPartner_44 (by decide) ?_
            exact ih _ hf _ _ hM _ (lv_sub hl [1, 2, 3, 0] rfl)
          · rw [if_pos hcd] at hf
            refine lv_iload_n hx hb dX7_firstBestPartner_39 rfl (lv_at hl 3 rfl) ?_
            cases hf
            exact hret hM dX7_firstBestPartner_40 rfl ⟨rfl, rfl⟩
  exact L9 K _ hf _ _ hM _ (lv_sub hl [2, 3, 1, 0] rfl)
def f_X7_bestPartner_L24 (K : Nat) (costs : Nat → Int32) (best : Nat → Int32) (x2 : Int32) : Nat → (Int32) → (Int32) → Option (Int32 × (Nat → Int32) × (Nat → Int32))
  | 0, _, _ => none
  | n + 1, x3, x4 => if 4 ≤ x4 then some (x2, costs, best) else if x3 = 0 then some (x2, costs, best) else (f_X7_firstOf K x3).bind fun q35 => (f_X7_firstBestPartner K costs best x3).bind fun q42 => if q35 = x2 then some (q42, costs, best) else if q42 = x2 then some (q35, costs, best) else (f_X7_without x3 q35 q42).bind fun q70 => f_X7_bestPartner_L24 K costs best x2 n q70 (x4 + 1)
def f_X7_bestPartner (K : Nat) (costs : Nat → Int32) (best : Nat → Int32) (p1_cells : Nat → Int32) (p1_count : Int32) (x2 : Int32) : Option (Int32 × (Nat → Int32) × (Nat → Int32)) := (f_X7_fillCosts K costs p1_cells p1_count).bind fun q2 => (f_X7_fillTable K q2 best p1_count).bind fun q10 => (f_X7_allOf p1_count).bind fun q17 => f_X7_bestPartner_L24 K q2 q10 x2 K q17 0
set_option maxHeartbeats 4000000 in
set_option maxRecDepth 100000 in
theorem c_X7_bestPartner (l : Launch) {G : mm_G} {K : Nat} {w : va_W} {sz : Nat} {b : Nat} {b1 : Nat} {costs : Nat → Int32} {best : Nat → Int32} {p1_cells : Nat → Int32} {p1_count : Int32} {x2 : Int32} {X : Int32 × (Nat → Int32) × (Nat → Int32)} (hf : f_X7_bestPartner K costs best p1_cells p1_count x2 = some X) (hp_this : At7 G w b costs best) (hp_p1 : At5 G w b1 p1_cells p1_count) (hd0 : b + 3 ≤ b1 ∨ b1 + 2 ≤ b) : Met l yX7_bestPartner (Cond.code yX7_bestPartner cX7_bestPartner 7 (some .int) :: gAll) ({ frames := 4, cells := 0, slots := 0, locals := 98 }) (va_Pc [.ref b, .ref b1, .int x2] (mm_Pre G w sz)) (mm_Qi G w sz (fun r w' => r = X.1 ∧ At7 G w' b X.2.1 X.2.2 ∧ mm_fr w w' b (b + 3))) 0 0 (va_A w sz) := by
  refine mm_headI [.ref b, .ref b1, .int x2] (by decide +kernel) rfl (Nat.le_of_ble_eq_true rfl) ?_
  intro p e s m args below meth c A Q hsz hC hM hret ls hl
  have hx := hC.1.1
  have hb := hC.1.2.1
  have hl : lv_has ls 7 [(0, .ref b), (1, .ref b1), (2, .int x2)] := hl
  have hF : mm_fr w w b (b + 3) := mm_fr.rf
  rw [f_X7_bestPartner] at hf
  refine lv_aload_n hx hb dX7_bestPartner_0 rfl (lv_at hl 0 rfl) ?_
  refine lv_aload_n hx hb dX7_bestPartner_1 rfl (lv_at hl 1 rfl) ?_
  obtain ⟨q2, hq2, hf⟩ := mm_bd hf
  refine mm_Vv (rest := []) hC hM (c_X7_fillCosts l hq2 hp_this hp_p1 (by omega)) q3_10 q1_9 ykX7_fillCosts q3_7 q3_9 qp_90daf7f7 hp_this.1 rfl ⟨rfl, rfl⟩ ⟨Nat.le_of_ble_eq_true rfl, Nat.le_of_ble_eq_true rfl⟩ rfl hl.1 rfl (Nat.le_of_ble_eq_true rfl) dX7_bestPartner_2 ⟨Nat.le_of_ble_eq_true rfl, Nat.le_of_ble_eq_true rfl⟩ (fun w2 H locs hM hw => ?_)
  obtain ⟨hn_this, hfr⟩ := hw
  have hp_p1 := hp_p1.keep hfr (by omega)
  have hp_this := hn_this
  have hF := hF.tr (hfr.wide (by omega) (by omega))
  refine lv_aload_n hx hb dX7_bestPartner_5 rfl (lv_at hl 0 rfl) ?_
  refine lv_aload_n hx hb dX7_bestPartner_6 rfl (lv_at hl 1 rfl) ?_
  refine mm_get hC hM (k := 1) hp_p1.1 rfl inAX5 (by decide) q1_130 rfl dX7_bestPartner_7 ?_
  obtain ⟨q10, hq10, hf⟩ := mm_bd hf
  refine mm_Vv (rest := []) hC hM (c_X7_fillTable l hq10 hp_this) q3_32 q1_9 ykX7_fillTable q3_29 q3_31 qp_65324395 hp_this.1 rfl ⟨rfl, rfl⟩ ⟨Nat.le_of_ble_eq_true rfl, Nat.le_of_ble_eq_true rfl⟩ rfl hl.1 rfl (Nat.le_of_ble_eq_true rfl) dX7_bestPartner_10 ⟨Nat.le_of_ble_eq_true rfl, Nat.le_of_ble_eq_true rfl⟩ (fun w10 H locs hM hw => ?_)
  obtain ⟨hn_this, hfr⟩ := hw
  have hp_p1 := hp_p1.keep hfr (by omega)
  have hp_this := hn_this
  have hF := hF.tr (hfr.wide (by omega) (by omega))
  refine lv_aload_n hx hb dX7_bestPartner_13 rfl (lv_at hl 1 rfl) ?_
  refine mm_get hC hM (k := 1) hp_p1.1 rfl inAX5 (by decide) q1_130 rfl dX7_bestPartner_14 ?_
  obtain ⟨q17, hq17, hf⟩ := mm_bd hf
  refine mm_Si (rest := []) hC hM (c_X7_allOf l hq17) q3_35 q1_9 ykX7_allOf q3_33 q3_34 ⟨rfl, rfl⟩ ⟨Nat.le_of_ble_eq_true rfl, Nat.le_of_ble_eq_true rfl⟩ rfl hl.1 rfl (Nat.le_of_ble_eq_true rfl) dX7_bestPartner_17 ⟨Nat.le_of_ble_eq_true rfl, Nat.le_of_ble_eq_true rfl⟩ (fun r w17 H locs hM hw => ?_)
  obtain ⟨hr, hw⟩ := hw
  rw [hr]
  rw [hw] at hM
  refine lv_istore_n (lv' := [(3, .int q17), (0, .ref b), (1, .ref b1), (2, .int x2)]) hx hb dX7_bestPartner_20 rfl hl (by decide) rfl (fun ls hl => ?_)
  refine lv_iconst (v := 0) hx hb dX7_bestPartner_21 (by decide) ?_
  refine lv_istore (lv' := [(4, .int 0), (3, .int q17), (0, .ref b), (1, .ref b1), (2, .int x2)]) hx hb dX7_bestPartner_22 hl (by decide) rfl (fun ls hl => ?_)
  have L24 : ∀ (n : Nat) (L24_x3 : Int32) (L24_x4 : Int32), f_X7_bestPartner_L24 K q2 q10 x2 n L24_x3 L24_x4 = some X → ∀ (H : Heap) (locs : List Loc), mm_S G A s.heap w10 H locs → ∀ (ls : Array Slot), lv_has ls 7 [(0, .ref b), (2, .int x2), (3, .int L24_x3), (4, .int L24_x4)] → W p l e ({ frames := 4, cells := 0, slots := 0, locals := 98 } : Room) s m args below meth c H locs 0 0 Q (F0 m 24 ls []) := by
    intro n
    induction n with
    | zero => intro L24_x3 L24_x4 hf; cases hf
    | succ n ih =>
      intro L24_x3 L24_x4 hf H locs hM ls hl
      rw [f_X7_bestPartner_L24] at hf
      refine lv_iload hx hb dX7_bestPartner_24 (lv_at hl 3 rfl) ?_
      refine lv_iconst (v := 4) hx hb dX7_bestPartner_26 (by decide) ?_
      refine lv_icmp_ge (tgt := 80) hx hb dX7_bestPartner_27 (by decide) (fun hcd => ?_) (fun hcd => ?_)
      · rw [if_pos hcd] at hf
        refine lv_iload_n hx hb dX7_bestPartner_80 rfl (lv_at hl 1 rfl) ?_
        cases hf
        exact hret hM dX7_bestPartner_81 rfl ⟨rfl, hp_this, hF⟩
      · rw [if_neg hcd] at hf
        refine lv_iload_n hx hb dX7_bestPartner_30 rfl (lv_at hl 2 rfl) ?_
        refine lv_if_eq (tgt := 80) hx hb dX7_bestPartner_31 (by decide) (fun hcd => ?_) (fun hcd => ?_)
        · rw [if_pos hcd] at hf
          refine lv_iload_n hx hb dX7_bestPartner_80 rfl (lv_at hl 1 rfl) ?_
          cases hf
          exact hret hM dX7_bestPartner_81 rfl ⟨rfl, hp_this, hF⟩
        · rw [if_neg hcd] at hf
          refine lv_iload_n hx hb dX7_bestPartner_34 rfl (lv_at hl 2 rfl) ?_
          obtain ⟨q35, hq35, hf⟩ := mm_bd hf
          refine mm_Si (rest := []) hC hM (c_X7_firstOf l hq35) q3_38 q1_9 ykX7_firstOf q3_36 q3_37 ⟨rfl, rfl⟩ ⟨Nat.le_of_ble_eq_true rfl, Nat.le_of_ble_eq_true rfl⟩ rfl hl.1 rfl (Nat.le_of_ble_eq_true rfl) dX7_bestPartner_35 ⟨Nat.le_of_ble_eq_true rfl, Nat.le_of_ble_eq_true rfl⟩ (fun r w35 H locs hM hw => ?_)
          obtain ⟨hr, hw⟩ := hw
          rw [hr]
          rw [hw] at hM
          refine lv_istore (lv' := [(5, .int q35), (0, .ref b), (2, .int x2), (3, .int L24_x3), (4, .int L24_x4)]) hx hb dX7_bestPartner_38 hl (by decide) rfl (fun ls hl => ?_)
          refine lv_aload_n hx hb dX7_bestPartner_40 rfl (lv_at hl 1 rfl) ?_
          refine lv_iload_n hx hb dX7_bestPartner_41 rfl (lv_at hl 3 rfl) ?_
          obtain ⟨q42, hq42, hf⟩ := mm_bd hf
          refine mm_Vi (rest := []) hC hM (c_X7_firstBestPartner l hq42 hp_this) q5_233 q1_9 ykX7_firstBestPartner q5_230 q5_232 qp_f612245a hp_this.1 rfl ⟨rfl, rfl⟩ ⟨Nat.le_of_ble_eq_true rfl, Nat.le_of_ble_eq_true rfl⟩ rfl hl.1 rfl (Nat.le_of_ble_eq_true rfl) dX7_bestPartner_42 ⟨Nat.le_of_ble_eq_true rfl, Nat.le_of_ble_eq_true rfl⟩ (fun r w42 H locs hM hw => ?_)
          obtain ⟨hr, hw⟩ := hw
          rw [hr]
          rw [hw] at hM
          refine lv_istore (lv' := [(6, .int q42), (5, .int q35), (0, .ref b), (2, .int x2), (3, .int L24_x3), (4, .int L24_x4)]) hx hb dX7_bestPartner_45 hl (by decide) rfl (fun ls hl => ?_)
          refine lv_iload hx hb dX7_bestPartner_47 (lv_at hl 1 rfl) ?_
          refine lv_iload_n hx hb dX7_bestPartner_49 rfl (lv_at hl 3 rfl) ?_
          refine lv_icmp_ne (tgt := 56) hx hb dX7_bestPartner_50 (by decide) (fun hcd => ?_) (fun hcd => ?_)
          · rw [if_neg hcd] at hf
            refine lv_iload hx hb dX7_bestPartner_56 (lv_at hl 0 rfl) ?_
            refine lv_iload_n hx hb dX7_bestPartner_58 rfl (lv_at hl 3 rfl) ?_
            refine lv_icmp_ne (tgt := 65) hx hb dX7_bestPartner_59 (by decide) (fun hcd => ?_) (fun hcd => ?_)
            · rw [if_neg hcd] at hf
              refine lv_iload_n hx hb dX7_bestPartner_65 rfl (lv_at hl 4 rfl) ?_
              refine lv_iload hx hb dX7_bestPartner_66 (lv_at hl 1 rfl) ?_
              refine lv_iload hx hb dX7_bestPartner_68 (lv_at hl 0 rfl) ?_
              obtain ⟨q70, hq70, hf⟩ := mm_bd hf
              refine mm_Si (rest := []) hC hM (c_X7_without l hq70) q3_49 q1_9 ykX7_without q3_47 q3_48 ⟨rfl, rfl⟩ ⟨Nat.le_of_ble_eq_true rfl, Nat.le_of_ble_eq_true rfl⟩ rfl hl.1 rfl (Nat.le_of_ble_eq_true rfl) dX7_bestPartner_70 ⟨Nat.le_of_ble_eq_true rfl, Nat.le_of_ble_eq_true rfl⟩ (fun r w70 H locs hM hw => ?_)
              obtain ⟨hr, hw⟩ := hw
              rw [hr]
              rw [hw] at hM
              refine lv_istore_n (lv' := [(3, .int q70), (6, .int q42), (5, .int q35), (0, .ref b), (2, .int x2), (4, .int L24_x4)]) hx hb dX7_bestPartner_73 rfl hl (by decide) rfl (fun ls hl => ?_)
              refine lv_iinc (v := (L24_x4 + 1)) (lv' := [(4, .int (L24_x4 + 1)), (3, .int q70), (6, .int q42), (5, .int q35), (0, .ref b), (2, .int x2)]) hx hb dX7_bestPartner_74 hl (k := 5) rfl rfl (by decide) rfl (fun ls hl => ?_)
              refine lv_goto (tgt := 24) hx hb dX7_bestPartner_77 (by decide) ?_
              exact ih _ _ hf _ _ hM _ (lv_sub hl [4, 5, 1, 0] rfl)
            · rw [if_pos hcd] at hf
              refine lv_iload hx hb dX7_bestPartner_62 (lv_at hl 1 rfl) ?_
              cases hf
              exact hret hM dX7_bestPartner_64 rfl ⟨rfl, hp_this, hF⟩
          · rw [if_pos hcd] at hf
            refine lv_iload hx hb dX7_bestPartner_53 (lv_at hl 0 rfl) ?_
            cases hf
            exact hret hM dX7_bestPartner_55 rfl ⟨rfl, hp_this, hF⟩
  exact L24 K _ _ hf _ _ hM _ (lv_sub hl [2, 4, 1, 0] rfl)
