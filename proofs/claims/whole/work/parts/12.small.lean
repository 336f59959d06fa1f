def f_X5_copyFrom (cells : Nat → Int32) (p1_cells : Nat → Int32) (p1_count : Int32) : Option ((Nat → Int32) × Int32) := some ((va_cpy p1_cells cells 0 0 8), p1_count)
set_option maxHeartbeats 4000000 in
set_option maxRecDepth 100000 in
theorem c_X5_copyFrom (l : Launch) {G : mm_G} {w : va_W} {sz : Nat} {b : Nat} {b1 : Nat} {cells : Nat → Int32} {count : Int32} {p1_cells : Nat → Int32} {p1_count : Int32} {X : (Nat → Int32) × Int32} (hf : f_X5_copyFrom cells p1_cells p1_count = some X) (hp_this : At5 G w b cells count) (hp_p1 : At5 G w b1 p1_cells p1_count) (hd0 : b + 2 ≤ b1 ∨ b1 + 2 ≤ b) : Met l yX5_copyFrom (Cond.code yX5_copyFrom cX5_copyFrom 2 none :: gAll) ({ frames := 1, cells := 0, slots := 0, locals := 60 }) (va_Pc [.ref b, .ref b1] (mm_Pre G w sz)) (mm_Qv G w sz (fun w' => At5 G w' b X.1 X.2 ∧ mm_fr w w' b (b + 2))) 0 0 (va_A w sz) := by
  refine mm_headV [.ref b, .ref b1] (by decide +kernel) rfl (Nat.le_of_ble_eq_true rfl) ?_
  intro p e s m args below meth c A Q hsz hC hM hret hnm ls hl
  have hx := hC.1.1
  have hb := hC.1.2.1
  have hl : lv_has ls 2 [(0, .ref b), (1, .ref b1)] := hl
  have hF : mm_fr w w b (b + 2) := mm_fr.rf
  rw [f_X5_copyFrom] at hf
  refine lv_aload_n hx hb dX5_copyFrom_0 rfl (lv_at hl 1 rfl) ?_
  refine mm_get hC hM (k := 0) hp_p1.1 rfl inAX5 (by decide) q1_129 rfl dX5_copyFrom_1 ?_
  refine lv_iconst (v := 0) hx hb dX5_copyFrom_4 (by decide) ?_
  refine lv_aload_n hx hb dX5_copyFrom_5 rfl (lv_at hl 0 rfl) ?_
  refine mm_get hC hM (k := 0) hp_this.1 rfl inAX5 (by decide) q1_129 rfl dX5_copyFrom_6 ?_
  refine lv_iconst (v := 0) hx hb dX5_copyFrom_9 (by decide) ?_
  refine lv_bipush (v := 8) hx hb dX5_copyFrom_10 (by decide) ?_
  refine mm_copy (S1 := 0) (D1 := 0) (N1 := 8) hC hM (hp_p1.2) (hp_this.2) (by decide) (by decide) (by decide) (by decide) (by decide) (by decide) (by decide) (by decide) (hC.1.2.2.1.trans hl.1.symm) q3_86 q2_235 q2_234 q1_19 (Nat.le_of_ble_eq_true rfl) (Nat.le_of_ble_eq_true rfl) dX5_copyFrom_12 (fun w12 H locs hM hm => ?_)
  have hp_this : At5 G w12 b (va_cpy p1_cells cells 0 0 8) count := ⟨hm.keep (hp_this.1) (by omega), hm.1⟩
  have hp_p1 := hp_p1.up hm (by omega)
  have hF := hF.tr (hm.fr (by omega) (by omega))
  refine lv_aload_n hx hb dX5_copyFrom_15 rfl (lv_at hl 0 rfl) ?_
  refine lv_aload_n hx hb dX5_copyFrom_16 rfl (lv_at hl 1 rfl) ?_
  refine mm_get hC hM (k := 1) hp_p1.1 rfl inAX5 (by decide) q1_131 rfl dX5_copyFrom_17 ?_
  refine mm_put hC hM (k := 1) tyX5 hp_this.1 rfl inAX5 tyX5_ok nmX5 (by decide) q1_131 rfl rfl rfl rfl (Nat.le_of_ble_eq_true rfl) dX5_copyFrom_20 (fun w20 H locs hM hm => ?_)
  have hp_this : At5 G w20 b (va_cpy p1_cells cells 0 0 8) p1_count := ⟨hm.1, hm.keep (hp_this.2) (by omega)⟩
  have hp_p1 := hp_p1.up hm (by omega)
  have hF := hF.tr (hm.fr (by omega) (by omega))
  cases hf
  exact hret hM dX5_copyFrom_23 ⟨hp_this, hF⟩
def f_X5_isIn_L2 (cells : Nat → Int32) (count : Int32) (x1 : Int32) : Nat → (Int32) → Option (Int32)
  | 0, _ => none
  | n + 1, x2 => if count ≤ x2 then some 0 else mm_g (mm_ck x2 8) (if (cells x2.toNatClampNeg) = x1 then some 1 else f_X5_isIn_L2 cells count x1 n (x2 + 1))
def f_X5_isIn (K : Nat) (cells : Nat → Int32) (count : Int32) (x1 : Int32) : Option (Int32) := f_X5_isIn_L2 cells count x1 K 0
set_option maxHeartbeats 4000000 in
set_option maxRecDepth 100000 in
theorem c_X5_isIn (l : Launch) {G : mm_G} {K : Nat} {w : va_W} {sz : Nat} {b : Nat} {cells : Nat → Int32} {count : Int32} {x1 : Int32} {X : Int32} (hf : f_X5_isIn K cells count x1 = some X) (hp_this : At5 G w b cells count) : Met l yX5_isIn (Cond.code yX5_isIn cX5_isIn 3 (some .boolean) :: gAll) ({ frames := 0, cells := 0, slots := 0, locals := 0 }) (va_Pc [.ref b, .int x1] (mm_Pre G w sz)) (mm_Qi G w sz (fun r w' => r = X ∧ w' = w)) 0 0 (va_A w sz) := by
  refine mm_headI [.ref b, .int x1] (by decide +kernel) rfl (Nat.le_of_ble_eq_true rfl) ?_
  intro p e s m args below meth c A Q hsz hC hM hret ls hl
  have hx := hC.1.1
  have hb := hC.1.2.1
  have hl : lv_has ls 3 [(0, .ref b), (1, .int x1)] := hl
  rw [f_X5_isIn] at hf
  refine lv_iconst (v := 0) hx hb dX5_isIn_0 (by decide) ?_
  refine lv_istore_n (lv' := [(2, .int 0), (0, .ref b), (1, .int x1)]) hx hb dX5_isIn_1 rfl hl (by decide) rfl (fun ls hl => ?_)
  have L2 : ∀ (n : Nat) (L2_x2 : Int32), f_X5_isIn_L2 cells count x1 n L2_x2 = some X → ∀ (H : Heap) (locs : List Loc), mm_S G A s.heap w H locs → ∀ (ls : Array Slot), lv_has ls 3 [(0, .ref b), (1, .int x1), (2, .int L2_x2)] → W p l e ({ frames := 0, cells := 0, slots := 0, locals := 0 } : Room) s m args below meth c H locs 0 0 Q (F0 m 2 ls []) := by
    intro n
    induction n with
    | zero => intro L2_x2 hf; cases hf
    | succ n ih =>
      intro L2_x2 hf H locs hM ls hl
      rw [f_X5_isIn_L2] at hf
      refine lv_iload_n hx hb dX5_isIn_2 rfl (lv_at hl 2 rfl) ?_
      refine lv_aload_n hx hb dX5_isIn_3 rfl (lv_at hl 0 rfl) ?_
      refine mm_get hC hM (k := 1) hp_this.1 rfl inAX5 (by decide) q1_131 rfl dX5_isIn_4 ?_
      refine lv_icmp_ge (tgt := 28) hx hb dX5_isIn_7 (by decide) (fun hcd => ?_) (fun hcd => ?_)
      · rw [if_pos hcd] at hf
        refine lv_iconst (v := 0) hx hb dX5_isIn_28 (by decide) ?_
        cases hf
        exact hret hM dX5_isIn_29 rfl ⟨rfl, rfl⟩
      · rw [if_neg hcd] at hf
        refine lv_aload_n hx hb dX5_isIn_10 rfl (lv_at hl 0 rfl) ?_
        refine mm_get hC hM (k := 0) hp_this.1 rfl inAX5 (by decide) q1_129 rfl dX5_isIn_11 ?_
        refine lv_iload_n hx hb dX5_isIn_14 rfl (lv_at hl 2 rfl) ?_
        obtain ⟨hg15, hf⟩ := mm_gd hf
        refine mm_iald hC hM (hp_this.2) hg15 dX5_isIn_15 ?_
        refine lv_iload_n hx hb dX5_isIn_16 rfl (lv_at hl 1 rfl) ?_
        refine lv_icmp_ne (tgt := 22) hx hb dX5_isIn_17 (by decide) (fun hcd => ?_) (fun hcd => ?_)
        · rw [if_neg hcd] at hf
          refine lv_iinc (v := (L2_x2 + 1)) (lv' := [(2, .int (L2_x2 + 1)), (0, .ref b), (1, .int x1)]) hx hb dX5_isIn_22 hl (k := 2) rfl rfl (by decide) rfl (fun ls hl => ?_)
          refine lv_goto (tgt := 2) hx hb dX5_isIn_25 (by decide) ?_
          exact ih _ hf _ _ hM _ (lv_sub hl [1, 2, 0] rfl)
        · rw [if_pos hcd] at hf
          refine lv_iconst (v := 1) hx hb dX5_isIn_20 (by decide) ?_
          cases hf
          exact hret hM dX5_isIn_21 rfl ⟨rfl, rfl⟩
  exact L2 K _ hf _ _ hM _ (lv_sub hl [1, 2, 0] rfl)
def f_X5_build (K : Nat) (cells : Nat → Int32) (count : Int32) (x1 : Int32) (x2 : Int32) : Option (Int32 × (Nat → Int32) × Int32) := (f_X12_cellAt x1 x2).bind fun q2 => if q2 = (-1) then some ((-1), cells, count) else if 8 ≤ count then some ((-3), cells, count) else (f_X5_isIn K cells count q2).bind fun q24 => if q24 = 0 then mm_g (mm_ck count 8) (some (((count + 1) - 1), (upd cells count.toNatClampNeg q2), (count + 1))) else some ((-3), cells, count)
set_option maxHeartbeats 4000000 in
set_option maxRecDepth 100000 in
theorem c_X5_build (l : Launch) {G : mm_G} {K : Nat} {w : va_W} {sz : Nat} {b : Nat} {cells : Nat → Int32} {count : Int32} {x1 : Int32} {x2 : Int32} {X : Int32 × (Nat → Int32) × Int32} (hf : f_X5_build K cells count x1 x2 = some X) (hp_this : At5 G w b cells count) : Met l yX5_build (Cond.code yX5_build cX5_build 4 (some .int) :: gAll) ({ frames := 1, cells := 0, slots := 0, locals := 22 }) (va_Pc [.ref b, .int x1, .int x2] (mm_Pre G w sz)) (mm_Qi G w sz (fun r w' => r = X.1 ∧ At5 G w' b X.2.1 X.2.2 ∧ mm_fr w w' b (b + 2))) 0 0 (va_A w sz) := by
  refine mm_headI [.ref b, .int x1, .int x2] (by decide +kernel) rfl (Nat.le_of_ble_eq_true rfl) ?_
  intro p e s m args below meth c A Q hsz hC hM hret ls hl
  have hx := hC.1.1
  have hb := hC.1.2.1
  have hl : lv_has ls 4 [(0, .ref b), (1, .int x1), (2, .int x2)] := hl
  have hF : mm_fr w w b (b + 2) := mm_fr.rf
  rw [f_X5_build] at hf
  refine lv_iload_n hx hb dX5_build_0 rfl (lv_at hl 1 rfl) ?_
  refine lv_iload_n hx hb dX5_build_1 rfl (lv_at hl 2 rfl) ?_
  obtain ⟨q2, hq2, hf⟩ := mm_bd hf
  refine mm_SNi (rest := []) hC hM (c_X12_cellAt l hq2) q2_166 q1_1 ykX12_cellAt q5_185 q2_165 ⟨rfl, rfl⟩ ⟨Nat.le_of_ble_eq_true rfl, Nat.le_of_ble_eq_true rfl⟩ rfl hl.1 rfl (Nat.le_of_ble_eq_true rfl) dX5_build_2 ⟨Nat.le_of_ble_eq_true rfl, Nat.le_of_ble_eq_true rfl⟩ (fun r w2 H locs hM hw => ?_)
  obtain ⟨hr, hw⟩ := hw
  rw [hr]
  rw [hw] at hM
  refine lv_istore_n (lv' := [(3, .int q2), (0, .ref b), (1, .int x1), (2, .int x2)]) hx hb dX5_build_5 rfl hl (by decide) rfl (fun ls hl => ?_)
  refine lv_iload_n hx hb dX5_build_6 rfl (lv_at hl 0 rfl) ?_
  refine lv_iconst (v := (-1)) hx hb dX5_build_7 (by decide) ?_
  refine lv_icmp_ne (tgt := 13) hx hb dX5_build_8 (by decide) (fun hcd => ?_) (fun hcd => ?_)
  · rw [if_neg hcd] at hf
    refine lv_aload_n hx hb dX5_build_13 rfl (lv_at hl 1 rfl) ?_
    refine mm_get hC hM (k := 1) hp_this.1 rfl inAX5 (by decide) q1_131 rfl dX5_build_14 ?_
    refine lv_bipush (v := 8) hx hb dX5_build_17 (by decide) ?_
    refine lv_icmp_ge (tgt := 30) hx hb dX5_build_19 (by decide) (fun hcd => ?_) (fun hcd => ?_)
    · rw [if_pos hcd] at hf
      refine lv_bipush (v := (-3)) hx hb dX5_build_30 (by decide) ?_
      cases hf
      exact hret hM dX5_build_32 rfl ⟨rfl, hp_this, hF⟩
    · rw [if_neg hcd] at hf
      refine lv_aload_n hx hb dX5_build_22 rfl (lv_at hl 1 rfl) ?_
      refine lv_iload_n hx hb dX5_build_23 rfl (lv_at hl 0 rfl) ?_
      obtain ⟨q24, hq24, hf⟩ := mm_bd hf
      refine mm_Vi (rest := []) hC hM (c_X5_isIn l hq24 hp_this) q5_189 q1_6 ykX5_isIn q5_186 q5_188 qp_01fb18f2 hp_this.1 rfl ⟨rfl, rfl⟩ ⟨Nat.le_of_ble_eq_true rfl, Nat.le_of_ble_eq_true rfl⟩ rfl hl.1 rfl (Nat.le_of_ble_eq_true rfl) dX5_build_24 ⟨Nat.le_of_ble_eq_true rfl, Nat.le_of_ble_eq_true rfl⟩ (fun r w24 H locs hM hw => ?_)
      obtain ⟨hr, hw⟩ := hw
      rw [hr]
      rw [hw] at hM
      refine lv_if_eq (tgt := 33) hx hb dX5_build_27 (by decide) (fun hcd => ?_) (fun hcd => ?_)
      · rw [if_pos hcd] at hf
        refine lv_aload_n hx hb dX5_build_33 rfl (lv_at hl 1 rfl) ?_
        refine mm_get hC hM (k := 0) hp_this.1 rfl inAX5 (by decide) q1_129 rfl dX5_build_34 ?_
        refine lv_aload_n hx hb dX5_build_37 rfl (lv_at hl 1 rfl) ?_
        refine mm_get hC hM (k := 1) hp_this.1 rfl inAX5 (by decide) q1_131 rfl dX5_build_38 ?_
        refine lv_iload_n hx hb dX5_build_41 rfl (lv_at hl 0 rfl) ?_
        obtain ⟨hg42, hf⟩ := mm_gd hf
        refine mm_iast hC hM (hp_this.2) hg42 dX5_build_42 (fun w42 H locs hM hm => ?_)
        have hp_this : At5 G w42 b (upd cells count.toNatClampNeg q2) count := ⟨hm.keep (hp_this.1) (by omega), hm.1⟩
        have hF := hF.tr (hm.fr (by omega) (by omega))
        refine lv_aload_n hx hb dX5_build_43 rfl (lv_at hl 1 rfl) ?_
        refine lv_dup hx hb dX5_build_44 rfl ?_
        refine mm_get hC hM (k := 1) hp_this.1 rfl inAX5 (by decide) q1_131 rfl dX5_build_45 ?_
        refine lv_iconst (v := 1) hx hb dX5_build_48 (by decide) ?_
        refine lv_iadd hx hb dX5_build_49 ?_
        refine mm_put hC hM (k := 1) tyX5 hp_this.1 rfl inAX5 tyX5_ok nmX5 (by decide) q1_131 rfl rfl rfl rfl (Nat.le_of_ble_eq_true rfl) dX5_build_50 (fun w50 H locs hM hm => ?_)
        have hp_this : At5 G w50 b (upd cells count.toNatClampNeg q2) (count + 1) := ⟨hm.1, hm.keep (hp_this.2) (by omega)⟩
        have hF := hF.tr (hm.fr (by omega) (by omega))
        refine lv_aload_n hx hb dX5_build_53 rfl (lv_at hl 1 rfl) ?_
        refine mm_get hC hM (k := 1) hp_this.1 rfl inAX5 (by decide) q1_131 rfl dX5_build_54 ?_
        refine lv_iconst (v := 1) hx hb dX5_build_57 (by decide) ?_
        refine lv_isub hx hb dX5_build_58 ?_
        cases hf
        exact hret hM dX5_build_59 rfl ⟨rfl, hp_this, hF⟩
      · rw [if_neg hcd] at hf
        refine lv_bipush (v := (-3)) hx hb dX5_build_30 (by decide) ?_
        cases hf
        exact hret hM dX5_build_32 rfl ⟨rfl, hp_this, hF⟩
  · rw [if_pos hcd] at hf
    refine lv_iconst (v := (-1)) hx hb dX5_build_11 (by decide) ?_
    cases hf
    exact hret hM dX5_build_12 rfl ⟨rfl, hp_this, hF⟩
def f_X5_tearDown_L18 (count : Int32) : Nat → (Int32) → (Nat → Int32) → Option (Nat → Int32)
  | 0, _, _ => none
  | n + 1, x2, cells => if count ≤ x2 then some cells else mm_g (mm_ck x2 8) (mm_g (mm_ck (x2 - 1) 8) (f_X5_tearDown_L18 count n (x2 + 1) (upd cells ((x2 - 1).toNatClampNeg) (cells x2.toNatClampNeg))))
def f_X5_tearDown (K : Nat) (cells : Nat → Int32) (count : Int32) (x1 : Int32) : Option (Int32 × (Nat → Int32) × Int32) := if x1 < 0 then some ((-1), cells, count) else if x1 < count then (f_X5_tearDown_L18 count K (x1 + 1) cells).bind fun q18 => some ((count - 1), q18, (count - 1)) else some ((-1), cells, count)
set_option maxHeartbeats 4000000 in
set_option maxRecDepth 100000 in
theorem c_X5_tearDown (l : Launch) {G : mm_G} {K : Nat} {w : va_W} {sz : Nat} {b : Nat} {cells : Nat → Int32} {count : Int32} {x1 : Int32} {X : Int32 × (Nat → Int32) × Int32} (hf : f_X5_tearDown K cells count x1 = some X) (hp_this : At5 G w b cells count) : Met l yX5_tearDown (Cond.code yX5_tearDown cX5_tearDown 3 (some .int) :: gAll) ({ frames := 0, cells := 0, slots := 0, locals := 0 }) (va_Pc [.ref b, .int x1] (mm_Pre G w sz)) (mm_Qi G w sz (fun r w' => r = X.1 ∧ At5 G w' b X.2.1 X.2.2 ∧ mm_fr w w' b (b + 2))) 0 0 (va_A w sz) := by
  refine mm_headI [.ref b, .int x1] (by decide +kernel) rfl (Nat.le_of_ble_eq_true rfl) ?_
  intro p e s m args below meth c A Q hsz hC hM hret ls hl
  have hx := hC.1.1
  have hb := hC.1.2.1
  have hl : lv_has ls 3 [(0, .ref b), (1, .int x1)] := hl
  have hF : mm_fr w w b (b + 2) := mm_fr.rf
  rw [f_X5_tearDown] at hf
  refine lv_iload_n hx hb dX5_tearDown_0 rfl (lv_at hl 1 rfl) ?_
  refine lv_if_lt (tgt := 12) hx hb dX5_tearDown_1 (by decide) (fun hcd => ?_) (fun hcd => ?_)
  · rw [if_pos hcd] at hf
    refine lv_iconst (v := (-1)) hx hb dX5_tearDown_12 (by decide) ?_
    cases hf
    exact hret hM dX5_tearDown_13 rfl ⟨rfl, hp_this, hF⟩
  · rw [if_neg hcd] at hf
    refine lv_iload_n hx hb dX5_tearDown_4 rfl (lv_at hl 1 rfl) ?_
    refine lv_aload_n hx hb dX5_tearDown_5 rfl (lv_at hl 0 rfl) ?_
    refine mm_get hC hM (k := 1) hp_this.1 rfl inAX5 (by decide) q1_131 rfl dX5_tearDown_6 ?_
    refine lv_icmp_lt (tgt := 14) hx hb dX5_tearDown_9 (by decide) (fun hcd => ?_) (fun hcd => ?_)
    · rw [if_pos hcd] at hf
      refine lv_iload_n hx hb dX5_tearDown_14 rfl (lv_at hl 1 rfl) ?_
      refine lv_iconst (v := 1) hx hb dX5_tearDown_15 (by decide) ?_
      refine lv_iadd hx hb dX5_tearDown_16 ?_
      refine lv_istore_n (lv' := [(2, .int (x1 + 1)), (0, .ref b), (1, .int x1)]) hx hb dX5_tearDown_17 rfl hl (by decide) rfl (fun ls hl => ?_)
      have L18 : ∀ (n : Nat) (L18_x2 : Int32) (L18_cells : Nat → Int32) (X : Nat → Int32), f_X5_tearDown_L18 count n L18_x2 L18_cells = some X → ∀ (L18_w : va_W) (H : Heap) (locs : List Loc), mm_S G A s.heap L18_w H locs → At5 G L18_w b L18_cells count → mm_fr w L18_w b (b + 2) → ∀ (ls : Array Slot), lv_has ls 3 [(0, .ref b), (2, .int L18_x2)] → (∀ (w9 : va_W) (H : Heap) (locs : List Loc), mm_S G A s.heap w9 H locs → At5 G w9 b X count → mm_fr w w9 b (b + 2) → ∀ (ls : Array Slot), lv_has ls 3 [(0, .ref b)] → W p l e ({ frames := 0, cells := 0, slots := 0, locals := 0 } : Room) s m args below meth c H locs 0 0 Q (F0 m 46 ls [])) → W p l e ({ frames := 0, cells := 0, slots := 0, locals := 0 } : Room) s m args below meth c H locs 0 0 Q (F0 m 18 ls []) := by
        intro n
        induction n with
        | zero => intro L18_x2 L18_cells X hf; cases hf
        | succ n ih =>
          intro L18_x2 L18_cells X hf L18_w H locs hM hp_this hF ls hl hk
          rw [f_X5_tearDown_L18] at hf
          refine lv_iload_n hx hb dX5_tearDown_18 rfl (lv_at hl 1 rfl) ?_
          refine lv_aload_n hx hb dX5_tearDown_19 rfl (lv_at hl 0 rfl) ?_
          refine mm_get hC hM (k := 1) hp_this.1 rfl inAX5 (by decide) q1_131 rfl dX5_tearDown_20 ?_
          refine lv_icmp_ge (tgt := 46) hx hb dX5_tearDown_23 (by decide) (fun hcd => ?_) (fun hcd => ?_)
          · rw [if_pos hcd] at hf
            cases hf
            exact hk _ _ _ hM hp_this hF _ (lv_sub hl [0] rfl)
          · rw [if_neg hcd] at hf
            refine lv_aload_n hx hb dX5_tearDown_26 rfl (lv_at hl 0 rfl) ?_
            refine mm_get hC hM (k := 0) hp_this.1 rfl inAX5 (by decide) q1_129 rfl dX5_tearDown_27 ?_
            refine lv_iload_n hx hb dX5_tearDown_30 rfl (lv_at hl 1 rfl) ?_
            refine lv_iconst (v := 1) hx hb dX5_tearDown_31 (by decide) ?_
            refine lv_isub hx hb dX5_tearDown_32 ?_
            refine lv_aload_n hx hb dX5_tearDown_33 rfl (lv_at hl 0 rfl) ?_
            refine mm_get hC hM (k := 0) hp_this.1 rfl inAX5 (by decide) q1_129 rfl dX5_tearDown_34 ?_
            refine lv_iload_n hx hb dX5_tearDown_37 rfl (lv_at hl 1 rfl) ?_
            obtain ⟨hg38, hf⟩ := mm_gd hf
            refine mm_iald hC hM (hp_this.2) hg38 dX5_tearDown_38 ?_
            obtain ⟨hg39, hf⟩ := mm_gd hf
            refine mm_iast hC hM (hp_this.2) hg39 dX5_tearDown_39 (fun w39 H locs hM hm => ?_)
            have hp_this : At5 G w39 b (upd L18_cells ((L18_x2 - 1).toNatClampNeg) (L18_cells L18_x2.toNatClampNeg)) count := ⟨hm.keep (hp_this.1) (by omega), hm.1⟩
            have hF := hF.tr (hm.fr (by omega) (by omega))
            refine lv_iinc (v := (L18_x2 + 1)) (lv' := [(2, .int (L18_x2 + 1)), (0, .ref b)]) hx hb dX5_tearDown_40 hl (k := 1) rfl rfl (by decide) rfl (fun ls hl => ?_)
            refine lv_goto (tgt := 18) hx hb dX5_tearDown_43 (by decide) ?_
            exact ih _ _ _ hf _ _ _ hM hp_this hF _ (lv_sub hl [1, 0] rfl) hk
      obtain ⟨q18, hq18, hf⟩ := mm_bd hf
      refine L18 K _ _ _ hq18 _ _ _ hM hp_this hF _ (lv_sub hl [1, 0] rfl) (fun w18 H locs hM hp_this hF ls hl => ?_)
      refine lv_aload_n hx hb dX5_tearDown_46 rfl (lv_at hl 0 rfl) ?_
      refine lv_dup hx hb dX5_tearDown_47 rfl ?_
      refine mm_get hC hM (k := 1) hp_this.1 rfl inAX5 (by decide) q1_131 rfl dX5_tearDown_48 ?_
      refine lv_iconst (v := 1) hx hb dX5_tearDown_51 (by decide) ?_
      refine lv_isub hx hb dX5_tearDown_52 ?_
      refine mm_put hC hM (k := 1) tyX5 hp_this.1 rfl inAX5 tyX5_ok nmX5 (by decide) q1_131 rfl rfl rfl rfl (Nat.le_of_ble_eq_true rfl) dX5_tearDown_53 (fun w53 H locs hM hm => ?_)
      have hp_this : At5 G w53 b q18 (count - 1) := ⟨hm.1, hm.keep (hp_this.2) (by omega)⟩
      have hF := hF.tr (hm.fr (by omega) (by omega))
      refine lv_aload_n hx hb dX5_tearDown_56 rfl (lv_at hl 0 rfl) ?_
      refine mm_get hC hM (k := 1) hp_this.1 rfl inAX5 (by decide) q1_131 rfl dX5_tearDown_57 ?_
      cases hf
      exact hret hM dX5_tearDown_60 rfl ⟨rfl, hp_this, hF⟩
    · rw [if_neg hcd] at hf
      refine lv_iconst (v := (-1)) hx hb dX5_tearDown_12 (by decide) ?_
      cases hf
      exact hret hM dX5_tearDown_13 rfl ⟨rfl, hp_this, hF⟩
def f_X5_costOfPair (cells : Nat → Int32) (x1 : Int32) (x2 : Int32) : Option (Int32) := mm_g (mm_ck x1 8) (mm_g (mm_ck x2 8) ((f_X12_distance (cells x1.toNatClampNeg) (cells x2.toNatClampNeg)).bind fun q12 => mm_g (mm_ck x1 8) (mm_g (mm_ck x2 8) ((f_X12_image (cells x2.toNatClampNeg)).bind fun q28 => (f_X12_distance (cells x1.toNatClampNeg) q28).bind fun q31 => some (if q31 < q12 then q31 else q12)))))
set_option maxHeartbeats 4000000 in
set_option maxRecDepth 100000 in
theorem c_X5_costOfPair (l : Launch) {G : mm_G} {w : va_W} {sz : Nat} {b : Nat} {cells : Nat → Int32} {count : Int32} {x1 : Int32} {x2 : Int32} {X : Int32} (hf : f_X5_costOfPair cells x1 x2 = some X) (hp_this : At5 G w b cells count) : Met l yX5_costOfPair (Cond.code yX5_costOfPair cX5_costOfPair 5 (some .int) :: gAll) ({ frames := 2, cells := 0, slots := 0, locals := 51 }) (va_Pc [.ref b, .int x1, .int x2] (mm_Pre G w sz)) (mm_Qi G w sz (fun r w' => r = X ∧ w' = w)) 0 0 (va_A w sz) := by
  refine mm_headI [.ref b, .int x1, .int x2] (by decide +kernel) rfl (Nat.le_of_ble_eq_true rfl) ?_
  intro p e s m args below meth c A Q hsz hC hM hret ls hl
  have hx := hC.1.1
  have hb := hC.1.2.1
  have hl : lv_has ls 5 [(0, .ref b), (1, .int x1), (2, .int x2)] := hl
  rw [f_X5_costOfPair] at hf
  refine lv_aload_n hx hb dX5_costOfPair_0 rfl (lv_at hl 0 rfl) ?_
  refine mm_get hC hM (k := 0) hp_this.1 rfl inAX5 (by decide) q1_129 rfl dX5_costOfPair_1 ?_
  refine lv_iload_n hx hb dX5_costOfPair_4 rfl (lv_at hl 1 rfl) ?_
  obtain ⟨hg5, hf⟩ := mm_gd hf
  refine mm_iald hC hM (hp_this.2) hg5 dX5_costOfPair_5 ?_
  refine lv_aload_n hx hb dX5_costOfPair_6 rfl (lv_at hl 0 rfl) ?_
  refine mm_get hC hM (k := 0) hp_this.1 rfl inAX5 (by decide) q1_129 rfl dX5_costOfPair_7 ?_
  refine lv_iload_n hx hb dX5_costOfPair_10 rfl (lv_at hl 2 rfl) ?_
  obtain ⟨hg11, hf⟩ := mm_gd hf
  refine mm_iald hC hM (hp_this.2) hg11 dX5_costOfPair_11 ?_
  obtain ⟨q12, hq12, hf⟩ := mm_bd hf
  refine mm_SNi (rest := []) hC hM (c_X12_distance l hq12) q3_17 q1_1 ykX12_distance q3_15 q3_16 ⟨rfl, rfl⟩ ⟨Nat.le_of_ble_eq_true rfl, Nat.le_of_ble_eq_true rfl⟩ rfl hl.1 rfl (Nat.le_of_ble_eq_true rfl) dX5_costOfPair_12 ⟨Nat.le_of_ble_eq_true rfl, Nat.le_of_ble_eq_true rfl⟩ (fun r w12 H locs hM hw => ?_)
  obtain ⟨hr, hw⟩ := hw
  rw [hr]
  rw [hw] at hM
  refine lv_istore_n (lv' := [(3, .int q12), (0, .ref b), (1, .int x1), (2, .int x2)]) hx hb dX5_costOfPair_15 rfl hl (by decide) rfl (fun ls hl => ?_)
  refine lv_aload_n hx hb dX5_costOfPair_16 rfl (lv_at hl 1 rfl) ?_
  refine mm_get hC hM (k := 0) hp_this.1 rfl inAX5 (by decide) q1_129 rfl dX5_costOfPair_17 ?_
  refine lv_iload_n hx hb dX5_costOfPair_20 rfl (lv_at hl 2 rfl) ?_
  obtain ⟨hg21, hf⟩ := mm_gd hf
  refine mm_iald hC hM (hp_this.2) hg21 dX5_costOfPair_21 ?_
  refine lv_aload_n hx hb dX5_costOfPair_22 rfl (lv_at hl 1 rfl) ?_
  refine mm_get hC hM (k := 0) hp_this.1 rfl inAX5 (by decide) q1_129 rfl dX5_costOfPair_23 ?_
  refine lv_iload_n hx hb dX5_costOfPair_26 rfl (lv_at hl 3 rfl) ?_
  obtain ⟨hg27, hf⟩ := mm_gd hf
  refine mm_iald hC hM (hp_this.2) hg27 dX5_costOfPair_27 ?_
  obtain ⟨q28, hq28, hf⟩ := mm_bd hf
  refine mm_SNi (rest := [.int (cells x1.toNatClampNeg)]) hC hM (c_X12_image l hq28) q2_75 q1_1 ykX12_image q3_25 q2_74 ⟨rfl, rfl⟩ ⟨Nat.le_of_ble_eq_true rfl, Nat.le_of_ble_eq_true rfl⟩ rfl hl.1 rfl (Nat.le_of_ble_eq_true rfl) dX5_costOfPair_28 ⟨Nat.le_of_ble_eq_true rfl, Nat.le_of_ble_eq_true rfl⟩ (fun r w28 H locs hM hw => ?_)
  obtain ⟨hr, hw⟩ := hw
  rw [hr]
  rw [hw] at hM
  obtain ⟨q31, hq31, hf⟩ := mm_bd hf
  refine mm_SNi (rest := []) hC hM (c_X12_distance l hq31) q3_17 q1_1 ykX12_distance q3_15 q3_16 ⟨rfl, rfl⟩ ⟨Nat.le_of_ble_eq_true rfl, Nat.le_of_ble_eq_true rfl⟩ rfl hl.1 rfl (Nat.le_of_ble_eq_true rfl) dX5_costOfPair_31 ⟨Nat.le_of_ble_eq_true rfl, Nat.le_of_ble_eq_true rfl⟩ (fun r w31 H locs hM hw => ?_)
  obtain ⟨hr, hw⟩ := hw
  rw [hr]
  rw [hw] at hM
  refine lv_istore (lv' := [(4, .int q31), (3, .int q12), (0, .ref b), (1, .int x1), (2, .int x2)]) hx hb dX5_costOfPair_34 hl (by decide) rfl (fun ls hl => ?_)
  refine lv_iload_n hx hb dX5_costOfPair_36 rfl (lv_at hl 1 rfl) ?_
  refine lv_iload hx hb dX5_costOfPair_37 (lv_at hl 0 rfl) ?_
  refine va_mmin hx hb (hC.1.2.2.1.trans hl.1.symm) hC.1.2.2.2.1 (hC.1.2.2.2.2 _ q3_26) (hC.1.2.2.2.2 _ q3_27) (hC.1.2.2.2.2 _ q1_24) (hC.1.2.2.2.2 _ q3_28) (Nat.le_of_ble_eq_true rfl) (Nat.le_of_ble_eq_true rfl) (Nat.le_of_ble_eq_true rfl) (Nat.le_of_ble_eq_true rfl) dX5_costOfPair_39 ?_
  cases hf
  exact hret hM dX5_costOfPair_42 rfl ⟨rfl, rfl⟩
def f_X10_put (signs : Nat → Int32) (length : Int32) (x1 : Int32) : Option (Int32 × (Nat → Int32) × Int32) := if 60 ≤ length then some (length, signs, length) else mm_g (mm_ck length 60) (some ((length + 1), (upd signs length.toNatClampNeg (vp_nar .char x1)), (length + 1)))
set_option maxHeartbeats 4000000 in
set_option maxRecDepth 100000 in
theorem c_X10_put (l : Launch) {G : mm_G} {w : va_W} {sz : Nat} {b : Nat} {signs : Nat → Int32} {length : Int32} {x1 : Int32} {X : Int32 × (Nat → Int32) × Int32} (hf : f_X10_put signs length x1 = some X) (hp_this : At10 G w b signs length) : Met l yX10_put (Cond.code yX10_put cX10_put 2 (some .int) :: gAll) ({ frames := 0, cells := 0, slots := 0, locals := 0 }) (va_Pc [.ref b, .int x1] (mm_Pre G w sz)) (mm_Qi G w sz (fun r w' => r = X.1 ∧ At10 G w' b X.2.1 X.2.2 ∧ mm_fr w w' b (b + 2))) 0 0 (va_A w sz) := by
  refine mm_headI [.ref b, .int x1] (by decide +kernel) rfl (Nat.le_of_ble_eq_true rfl) ?_
  intro p e s m args below meth c A Q hsz hC hM hret ls hl
  have hx := hC.1.1
  have hb := hC.1.2.1
  have hl : lv_has ls 2 [(0, .ref b), (1, .int x1)] := hl
  have hF : mm_fr w w b (b + 2) := mm_fr.rf
  rw [f_X10_put] at hf
  refine lv_aload_n hx hb dX10_put_0 rfl (lv_at hl 0 rfl) ?_
  refine mm_get hC hM (k := 1) hp_this.1 rfl inAX10 (by decide) q2_7 rfl dX10_put_1 ?_
  refine lv_bipush (v := 60) hx hb dX10_put_4 (by decide) ?_
  refine lv_icmp_ge (tgt := 29) hx hb dX10_put_6 (by decide) (fun hcd => ?_) (fun hcd => ?_)
  · rw [if_pos hcd] at hf
    refine lv_aload_n hx hb dX10_put_29 rfl (lv_at hl 0 rfl) ?_
    refine mm_get hC hM (k := 1) hp_this.1 rfl inAX10 (by decide) q2_7 rfl dX10_put_30 ?_
    cases hf
    exact hret hM dX10_put_33 rfl ⟨rfl, hp_this, hF⟩
  · rw [if_neg hcd] at hf
    refine lv_aload_n hx hb dX10_put_9 rfl (lv_at hl 0 rfl) ?_
    refine mm_get hC hM (k := 0) hp_this.1 rfl inAX10 (by decide) q2_6 rfl dX10_put_10 ?_
    refine lv_aload_n hx hb dX10_put_13 rfl (lv_at hl 0 rfl) ?_
    refine mm_get hC hM (k := 1) hp_this.1 rfl inAX10 (by decide) q2_7 rfl dX10_put_14 ?_
    refine lv_iload_n hx hb dX10_put_17 rfl (lv_at hl 1 rfl) ?_
    obtain ⟨hg18, hf⟩ := mm_gd hf
    refine mm_cast hC hM (hp_this.2) hg18 dX10_put_18 (fun w18 H locs hM hm => ?_)
    have hp_this : At10 G w18 b (upd signs length.toNatClampNeg (vp_nar .char x1)) length := ⟨hm.keep (hp_this.1) (by omega), hm.1⟩
    have hF := hF.tr (hm.fr (by omega) (by omega))
    refine lv_aload_n hx hb dX10_put_19 rfl (lv_at hl 0 rfl) ?_
    refine lv_dup hx hb dX10_put_20 rfl ?_
    refine mm_get hC hM (k := 1) hp_this.1 rfl inAX10 (by decide) q2_7 rfl dX10_put_21 ?_
    refine lv_iconst (v := 1) hx hb dX10_put_24 (by decide) ?_
    refine lv_iadd hx hb dX10_put_25 ?_
    refine mm_put hC hM (k := 1) tyX10 hp_this.1 rfl inAX10 tyX10_ok nmX10 (by decide) q2_7 rfl rfl rfl rfl (Nat.le_of_ble_eq_true rfl) dX10_put_26 (fun w26 H locs hM hm => ?_)
    have hp_this : At10 G w26 b (upd signs length.toNatClampNeg (vp_nar .char x1)) (length + 1) := ⟨hm.1, hm.keep (hp_this.2) (by omega)⟩
    have hF := hF.tr (hm.fr (by omega) (by omega))
    refine lv_aload_n hx hb dX10_put_29 rfl (lv_at hl 0 rfl) ?_
    refine mm_get hC hM (k := 1) hp_this.1 rfl inAX10 (by decide) q2_7 rfl dX10_put_30 ?_
    cases hf
    exact hret hM dX10_put_33 rfl ⟨rfl, hp_this, hF⟩
def f_X10_putNumberAboveOne (signs : Nat → Int32) (length : Int32) (x1 : Int32) : Option ((Nat → Int32) × Int32) := if x1 < 10 then if x1 ≤ 1 then some (signs, length) else (f_X10_put signs length (((48 + (x1 - x1 / 10 * 10)).toUInt32 % 65536).toInt32)).bind fun q36 => some (q36.2.1, q36.2.2) else (f_X10_put signs length (((48 + ((x1 / 10) - (x1 / 10) / 10 * 10)).toUInt32 % 65536).toInt32)).bind fun q18 => if x1 ≤ 1 then some (q18.2.1, q18.2.2) else (f_X10_put q18.2.1 q18.2.2 (((48 + (x1 - x1 / 10 * 10)).toUInt32 % 65536).toInt32)).bind fun q36 => some (q36.2.1, q36.2.2)
set_option maxHeartbeats 4000000 in
set_option maxRecDepth 100000 in
theorem c_X10_putNumberAboveOne (l : Launch) {G : mm_G} {w : va_W} {sz : Nat} {b : Nat} {signs : Nat → Int32} {length : Int32} {x1 : Int32} {X : (Nat → Int32) × Int32} (hf : f_X10_putNumberAboveOne signs length x1 = some X) (hp_this : At10 G w b signs length) : Met l yX10_putNumberAboveOne (Cond.code yX10_putNumberAboveOne cX10_putNumberAboveOne 2 none :: gAll) ({ frames := 1, cells := 0, slots := 0, locals := 21 }) (va_Pc [.ref b, .int x1] (mm_Pre G w sz)) (mm_Qv G w sz (fun w' => At10 G w' b X.1 X.2 ∧ mm_fr w w' b (b + 2))) 0 0 (va_A w sz) := by
  refine mm_headV [.ref b, .int x1] (by decide +kernel) rfl (Nat.le_of_ble_eq_true rfl) ?_
  intro p e s m args below meth c A Q hsz hC hM hret hnm ls hl
  have hx := hC.1.1
  have hb := hC.1.2.1
  have hl : lv_has ls 2 [(0, .ref b), (1, .int x1)] := hl
  have hF : mm_fr w w b (b + 2) := mm_fr.rf
  rw [f_X10_putNumberAboveOne] at hf
  refine lv_iload_n hx hb dX10_putNumberAboveOne_0 rfl (lv_at hl 1 rfl) ?_
  refine lv_bipush (v := 10) hx hb dX10_putNumberAboveOne_1 (by decide) ?_
  refine lv_icmp_lt (tgt := 22) hx hb dX10_putNumberAboveOne_3 (by decide) (fun hcd => ?_) (fun hcd => ?_)
  · rw [if_pos hcd] at hf
    refine lv_iload_n hx hb dX10_putNumberAboveOne_22 rfl (lv_at hl 1 rfl) ?_
    refine lv_iconst (v := 1) hx hb dX10_putNumberAboveOne_23 (by decide) ?_
    refine lv_icmp_le (tgt := 40) hx hb dX10_putNumberAboveOne_24 (by decide) (fun hcd => ?_) (fun hcd => ?_)
    · rw [if_pos hcd] at hf
      cases hf
      exact hret hM dX10_putNumberAboveOne_40 ⟨hp_this, hF⟩
    · rw [if_neg hcd] at hf
      refine lv_aload_n hx hb dX10_putNumberAboveOne_27 rfl (lv_at hl 0 rfl) ?_
      refine lv_bipush (v := 48) hx hb dX10_putNumberAboveOne_28 (by decide) ?_
      refine lv_iload_n hx hb dX10_putNumberAboveOne_30 rfl (lv_at hl 1 rfl) ?_
      refine lv_bipush (v := 10) hx hb dX10_putNumberAboveOne_31 (by decide) ?_
      refine lv_irem hx hb dX10_putNumberAboveOne_33 (by decide) ?_
      refine lv_iadd hx hb dX10_putNumberAboveOne_34 ?_
      refine lv_i2c hx hb dX10_putNumberAboveOne_35 rfl ?_
      obtain ⟨q36, hq36, hf⟩ := mm_bd hf
      refine mm_Vi (rest := []) hC hM (c_X10_put l hq36 hp_this) q6_4 q1_11 ykX10_put q6_183 q6_2 q6_3 hp_this.1 rfl ⟨rfl, rfl⟩ ⟨Nat.le_of_ble_eq_true rfl, Nat.le_of_ble_eq_true rfl⟩ rfl hl.1 rfl (Nat.le_of_ble_eq_true rfl) dX10_putNumberAboveOne_36 ⟨Nat.le_of_ble_eq_true rfl, Nat.le_of_ble_eq_true rfl⟩ (fun r w36 H locs hM hw => ?_)
      obtain ⟨hr, hn_this, hfr⟩ := hw
      rw [hr]
      have hp_this := hn_this
      have hF := hF.tr (hfr.wide (by omega) (by omega))
      refine lv_pop hx hb dX10_putNumberAboveOne_39 rfl ?_
      cases hf
      exact hret hM dX10_putNumberAboveOne_40 ⟨hp_this, hF⟩
  · rw [if_neg hcd] at hf
    refine lv_aload_n hx hb dX10_putNumberAboveOne_6 rfl (lv_at hl 0 rfl) ?_
    refine lv_bipush (v := 48) hx hb dX10_putNumberAboveOne_7 (by decide) ?_
    refine lv_iload_n hx hb dX10_putNumberAboveOne_9 rfl (lv_at hl 1 rfl) ?_
    refine lv_bipush (v := 10) hx hb dX10_putNumberAboveOne_10 (by decide) ?_
    refine lv_idiv hx hb dX10_putNumberAboveOne_12 (by decide) ?_
    refine lv_bipush (v := 10) hx hb dX10_putNumberAboveOne_13 (by decide) ?_
    refine lv_irem hx hb dX10_putNumberAboveOne_15 (by decide) ?_
    refine lv_iadd hx hb dX10_putNumberAboveOne_16 ?_
    refine lv_i2c hx hb dX10_putNumberAboveOne_17 rfl ?_
    obtain ⟨q18, hq18, hf⟩ := mm_bd hf
    refine mm_Vi (rest := []) hC hM (c_X10_put l hq18 hp_this) q6_4 q1_11 ykX10_put q6_183 q6_2 q6_3 hp_this.1 rfl ⟨rfl, rfl⟩ ⟨Nat.le_of_ble_eq_true rfl, Nat.le_of_ble_eq_true rfl⟩ rfl hl.1 rfl (Nat.le_of_ble_eq_true rfl) dX10_putNumberAboveOne_18 ⟨Nat.le_of_ble_eq_true rfl, Nat.le_of_ble_eq_true rfl⟩ (fun r w18 H locs hM hw => ?_)
    obtain ⟨hr, hn_this, hfr⟩ := hw
    rw [hr]
    have hp_this := hn_this
    have hF := hF.tr (hfr.wide (by omega) (by omega))
    refine lv_pop hx hb dX10_putNumberAboveOne_21 rfl ?_
    refine lv_iload_n hx hb dX10_putNumberAboveOne_22 rfl (lv_at hl 1 rfl) ?_
    refine lv_iconst (v := 1) hx hb dX10_putNumberAboveOne_23 (by decide) ?_
    refine lv_icmp_le (tgt := 40) hx hb dX10_putNumberAboveOne_24 (by decide) (fun hcd => ?_) (fun hcd => ?_)
    · rw [if_pos hcd] at hf
      cases hf
      exact hret hM dX10_putNumberAboveOne_40 ⟨hp_this, hF⟩
    · rw [if_neg hcd] at hf
      refine lv_aload_n hx hb dX10_putNumberAboveOne_27 rfl (lv_at hl 0 rfl) ?_
      refine lv_bipush (v := 48) hx hb dX10_putNumberAboveOne_28 (by decide) ?_
      refine lv_iload_n hx hb dX10_putNumberAboveOne_30 rfl (lv_at hl 1 rfl) ?_
      refine lv_bipush (v := 10) hx hb dX10_putNumberAboveOne_31 (by decide) ?_
      refine lv_irem hx hb dX10_putNumberAboveOne_33 (by decide) ?_
      refine lv_iadd hx hb dX10_putNumberAboveOne_34 ?_
      refine lv_i2c hx hb dX10_putNumberAboveOne_35 rfl ?_
      obtain ⟨q36, hq36, hf⟩ := mm_bd hf
      refine mm_Vi (rest := []) hC hM (c_X10_put l hq36 hp_this) q6_4 q1_11 ykX10_put q6_183 q6_2 q6_3 hp_this.1 rfl ⟨rfl, rfl⟩ ⟨Nat.le_of_ble_eq_true rfl, Nat.le_of_ble_eq_true rfl⟩ rfl hl.1 rfl (Nat.le_of_ble_eq_true rfl) dX10_putNumberAboveOne_36 ⟨Nat.le_of_ble_eq_true rfl, Nat.le_of_ble_eq_true rfl⟩ (fun r w36 H locs hM hw => ?_)
      obtain ⟨hr, hn_this, hfr⟩ := hw
      rw [hr]
      have hp_this := hn_this
      have hF := hF.tr (hfr.wide (by omega) (by omega))
      refine lv_pop hx hb dX10_putNumberAboveOne_39 rfl ?_
      cases hf
      exact hret hM dX10_putNumberAboveOne_40 ⟨hp_this, hF⟩
def f_X10_wipe : Option (Int32) := some 0
set_option maxHeartbeats 4000000 in
set_option maxRecDepth 100000 in
theorem c_X10_wipe (l : Launch) {G : mm_G} {w : va_W} {sz : Nat} {b : Nat} {signs : Nat → Int32} {length : Int32} {X : Int32} (hf : f_X10_wipe = some X) (hp_this : At10 G w b signs length) : Met l yX10_wipe (Cond.code yX10_wipe cX10_wipe 1 none :: gAll) ({ frames := 0, cells := 0, slots := 0, locals := 0 }) (va_Pc [.ref b] (mm_Pre G w sz)) (mm_Qv G w sz (fun w' => At10 G w' b signs X ∧ mm_fr w w' b (b + 2))) 0 0 (va_A w sz) := by
  refine mm_headV [.ref b] (by decide +kernel) rfl (Nat.le_of_ble_eq_true rfl) ?_
  intro p e s m args below meth c A Q hsz hC hM hret hnm ls hl
  have hx := hC.1.1
  have hb := hC.1.2.1
  have hl : lv_has ls 1 [(0, .ref b)] := hl
  have hF : mm_fr w w b (b + 2) := mm_fr.rf
  rw [f_X10_wipe] at hf
  refine lv_aload_n hx hb dX10_wipe_0 rfl (lv_at hl 0 rfl) ?_
  refine lv_iconst (v := 0) hx hb dX10_wipe_1 (by decide) ?_
  refine mm_put hC hM (k := 1) tyX10 hp_this.1 rfl inAX10 tyX10_ok nmX10 (by decide) q2_7 rfl rfl rfl rfl (Nat.le_of_ble_eq_true rfl) dX10_wipe_2 (fun w2 H locs hM hm => ?_)
  have hp_this : At10 G w2 b signs 0 := ⟨hm.1, hm.keep (hp_this.2) (by omega)⟩
  have hF := hF.tr (hm.fr (by omega) (by omega))
  cases hf
  exact hret hM dX10_wipe_5 ⟨hp_this, hF⟩
def f_X10_signAt (signs : Nat → Int32) (length : Int32) (x1 : Int32) : Option (Int32) := if x1 < 0 then some 0 else if length ≤ x1 then some 0 else mm_g (mm_ck x1 60) (mm_g (decide (vp_nar .char (signs x1.toNatClampNeg) = (signs x1.toNatClampNeg))) (some (signs x1.toNatClampNeg)))
set_option maxHeartbeats 4000000 in
set_option maxRecDepth 100000 in
theorem c_X10_signAt (l : Launch) {G : mm_G} {w : va_W} {sz : Nat} {b : Nat} {signs : Nat → Int32} {length : Int32} {x1 : Int32} {X : Int32} (hf : f_X10_signAt signs length x1 = some X) (hp_this : At10 G w b signs length) : Met l yX10_signAt (Cond.code yX10_signAt cX10_signAt 2 (some .char) :: gAll) ({ frames := 0, cells := 0, slots := 0, locals := 0 }) (va_Pc [.ref b, .int x1] (mm_Pre G w sz)) (mm_Qi G w sz (fun r w' => r = X ∧ w' = w)) 0 0 (va_A w sz) := by
  refine mm_headI [.ref b, .int x1] (by decide +kernel) rfl (Nat.le_of_ble_eq_true rfl) ?_
  intro p e s m args below meth c A Q hsz hC hM hret ls hl
  have hx := hC.1.1
  have hb := hC.1.2.1
  have hl : lv_has ls 2 [(0, .ref b), (1, .int x1)] := hl
  rw [f_X10_signAt] at hf
  refine lv_iload_n hx hb dX10_signAt_0 rfl (lv_at hl 1 rfl) ?_
  refine lv_if_lt (tgt := 21) hx hb dX10_signAt_1 (by decide) (fun hcd => ?_) (fun hcd => ?_)
  · rw [if_pos hcd] at hf
    refine lv_iconst (v := 0) hx hb dX10_signAt_21 (by decide) ?_
    cases hf
    exact hret hM dX10_signAt_22 (by decide) ⟨rfl, rfl⟩
  · rw [if_neg hcd] at hf
    refine lv_iload_n hx hb dX10_signAt_4 rfl (lv_at hl 1 rfl) ?_
    refine lv_aload_n hx hb dX10_signAt_5 rfl (lv_at hl 0 rfl) ?_
    refine mm_get hC hM (k := 1) hp_this.1 rfl inAX10 (by decide) q2_7 rfl dX10_signAt_6 ?_
    refine lv_icmp_ge (tgt := 21) hx hb dX10_signAt_9 (by decide) (fun hcd => ?_) (fun hcd => ?_)
    · rw [if_pos hcd] at hf
      refine lv_iconst (v := 0) hx hb dX10_signAt_21 (by decide) ?_
      cases hf
      exact hret hM dX10_signAt_22 (by decide) ⟨rfl, rfl⟩
    · rw [if_neg hcd] at hf
      refine lv_aload_n hx hb dX10_signAt_12 rfl (lv_at hl 0 rfl) ?_
      refine mm_get hC hM (k := 0) hp_this.1 rfl inAX10 (by decide) q2_6 rfl dX10_signAt_13 ?_
      refine lv_iload_n hx hb dX10_signAt_16 rfl (lv_at hl 1 rfl) ?_
      obtain ⟨hg17, hf⟩ := mm_gd hf
      refine mm_cald hC hM (hp_this.2) hg17 dX10_signAt_17 ?_
      refine lv_goto (tgt := 22) hx hb dX10_signAt_18 (by decide) ?_
      obtain ⟨hgr, hf⟩ := mm_gb hf
      cases hf
      exact hret hM dX10_signAt_22 (mm_narC (of_decide_eq_true hgr)) ⟨rfl, rfl⟩
def f_X10_endOfMoves_L2 (K : Nat) (signs : Nat → Int32) (length : Int32) : Nat → (Int32) → Option (Int32)
  | 0, _ => none
  | n + 1, x2 => if length ≤ x2 then some x2 else (f_X10_signAt signs length x2).bind fun q12 => (f_X12_moveOf K q12).bind fun q15 => if q15 = (-1) then some x2 else f_X10_endOfMoves_L2 K signs length n (x2 + 1)
def f_X10_endOfMoves (K : Nat) (signs : Nat → Int32) (length : Int32) (x1 : Int32) : Option (Int32) := (f_X10_endOfMoves_L2 K signs length K x1).bind fun q2 => some q2
set_option maxHeartbeats 4000000 in
set_option maxRecDepth 100000 in
theorem c_X10_endOfMoves (l : Launch) {G : mm_G} {K : Nat} {w : va_W} {sz : Nat} {b : Nat} {signs : Nat → Int32} {length : Int32} {x1 : Int32} {X : Int32} (hf : f_X10_endOfMoves K signs length x1 = some X) (hp_this : At10 G w b signs length) : Met l yX10_endOfMoves (Cond.code yX10_endOfMoves cX10_endOfMoves 3 (some .int) :: gAll) ({ frames := 1, cells := 0, slots := 0, locals := 21 }) (va_Pc [.ref b, .int x1] (mm_Pre G w sz)) (mm_Qi G w sz (fun r w' => r = X ∧ w' = w)) 0 0 (va_A w sz) := by
  refine mm_headI [.ref b, .int x1] (by decide +kernel) rfl (Nat.le_of_ble_eq_true rfl) ?_
  intro p e s m args below meth c A Q hsz hC hM hret ls hl
  have hx := hC.1.1
  have hb := hC.1.2.1
  have hl : lv_has ls 3 [(0, .ref b), (1, .int x1)] := hl
  rw [f_X10_endOfMoves] at hf
  refine lv_iload_n hx hb dX10_endOfMoves_0 rfl (lv_at hl 1 rfl) ?_
  refine lv_istore_n (lv' := [(2, .int x1), (0, .ref b), (1, .int x1)]) hx hb dX10_endOfMoves_1 rfl hl (by decide) rfl (fun ls hl => ?_)
  have L2 : ∀ (n : Nat) (L2_x2 : Int32) (X : Int32), f_X10_endOfMoves_L2 K signs length n L2_x2 = some X → ∀ (H : Heap) (locs : List Loc), mm_S G A s.heap w H locs → ∀ (ls : Array Slot), lv_has ls 3 [(0, .ref b), (2, .int L2_x2)] → (∀ (H : Heap) (locs : List Loc), mm_S G A s.heap w H locs → ∀ (ls : Array Slot), lv_has ls 3 [(2, .int X)] → W p l e ({ frames := 1, cells := 0, slots := 0, locals := 21 } : Room) s m args below meth c H locs 0 0 Q (F0 m 28 ls [])) → W p l e ({ frames := 1, cells := 0, slots := 0, locals := 21 } : Room) s m args below meth c H locs 0 0 Q (F0 m 2 ls []) := by
    intro n
    induction n with
    | zero => intro L2_x2 X hf; cases hf
    | succ n ih =>
      intro L2_x2 X hf H locs hM ls hl hk
      rw [f_X10_endOfMoves_L2] at hf
      refine lv_iload_n hx hb dX10_endOfMoves_2 rfl (lv_at hl 1 rfl) ?_
      refine lv_aload_n hx hb dX10_endOfMoves_3 rfl (lv_at hl 0 rfl) ?_
      refine mm_get hC hM (k := 1) hp_this.1 rfl inAX10 (by decide) q2_7 rfl dX10_endOfMoves_4 ?_
      refine lv_icmp_ge (tgt := 28) hx hb dX10_endOfMoves_7 (by decide) (fun hcd => ?_) (fun hcd => ?_)
      · rw [if_pos hcd] at hf
        cases hf
        exact hk _ _ hM _ (lv_sub hl [1] rfl)
      · rw [if_neg hcd] at hf
        refine lv_aload_n hx hb dX10_endOfMoves_10 rfl (lv_at hl 0 rfl) ?_
        refine lv_iload_n hx hb dX10_endOfMoves_11 rfl (lv_at hl 1 rfl) ?_
        obtain ⟨q12, hq12, hf⟩ := mm_bd hf
        refine mm_Vi (rest := []) hC hM (c_X10_signAt l hq12 hp_this) q6_76 q1_11 ykX10_signAt q6_97 q6_74 q6_75 hp_this.1 rfl ⟨rfl, rfl⟩ ⟨Nat.le_of_ble_eq_true rfl, Nat.le_of_ble_eq_true rfl⟩ rfl hl.1 rfl (Nat.le_of_ble_eq_true rfl) dX10_endOfMoves_12 ⟨Nat.le_of_ble_eq_true rfl, Nat.le_of_ble_eq_true rfl⟩ (fun r w12 H locs hM hw => ?_)
        obtain ⟨hr, hw⟩ := hw
        rw [hr]
        rw [hw] at hM
        obtain ⟨q15, hq15, hf⟩ := mm_bd hf
        refine mm_SNi (rest := []) hC hM (c_X12_moveOf l hq15) q4_214 q1_1 ykX12_moveOf q6_98 q4_213 ⟨rfl, rfl⟩ ⟨Nat.le_of_ble_eq_true rfl, Nat.le_of_ble_eq_true rfl⟩ rfl hl.1 rfl (Nat.le_of_ble_eq_true rfl) dX10_endOfMoves_15 ⟨Nat.le_of_ble_eq_true rfl, Nat.le_of_ble_eq_true rfl⟩ (fun r w15 H locs hM hw => ?_)
        obtain ⟨hr, hw⟩ := hw
        rw [hr]
        rw [hw] at hM
        refine lv_iconst (v := (-1)) hx hb dX10_endOfMoves_18 (by decide) ?_
        refine lv_icmp_eq (tgt := 28) hx hb dX10_endOfMoves_19 (by decide) (fun hcd => ?_) (fun hcd => ?_)
        · rw [if_pos hcd] at hf
          cases hf
          exact hk _ _ hM _ (lv_sub hl [1] rfl)
        · rw [if_neg hcd] at hf
          refine lv_iinc (v := (L2_x2 + 1)) (lv' := [(2, .int (L2_x2 + 1)), (0, .ref b)]) hx hb dX10_endOfMoves_22 hl (k := 1) rfl rfl (by decide) rfl (fun ls hl => ?_)
          refine lv_goto (tgt := 2) hx hb dX10_endOfMoves_25 (by decide) ?_
          exact ih _ _ hf _ _ hM _ (lv_sub hl [1, 0] rfl) hk
  obtain ⟨q2, hq2, hf⟩ := mm_bd hf
  refine L2 K _ _ hq2 _ _ hM _ (lv_sub hl [1, 0] rfl) (fun H locs hM ls hl => ?_)
  refine lv_iload_n hx hb dX10_endOfMoves_28 rfl (lv_at hl 0 rfl) ?_
  cases hf
  exact hret hM dX10_endOfMoves_29 rfl ⟨rfl, rfl⟩
