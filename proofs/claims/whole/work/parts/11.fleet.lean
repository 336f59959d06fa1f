def f_X3_copyFrom (numbers : Nat → Int32) (cells : Nat → Int32) (fares : Nat → Int32) (p1_numbers : Nat → Int32) (p1_cells : Nat → Int32) (p1_fares : Nat → Int32) (p1_count : Int32) (p1_nextNumber : Int32) (p1_total : Int32) (p1_removedFares : Int32) (p1_meetings : Int32) : Option ((Nat → Int32) × (Nat → Int32) × (Nat → Int32) × Int32 × Int32 × Int32 × Int32 × Int32) := some ((va_cpy p1_numbers numbers 0 0 4), (va_cpy p1_cells cells 0 0 4), (va_cpy p1_fares fares 0 0 4), p1_count, p1_nextNumber, p1_total, p1_removedFares, p1_meetings)
set_option maxHeartbeats 4000000 in
set_option maxRecDepth 100000 in
theorem c_X3_copyFrom (l : Launch) {G : mm_G} {w : va_W} {sz : Nat} {b : Nat} {b1 : Nat} {numbers : Nat → Int32} {cells : Nat → Int32} {fares : Nat → Int32} {count : Int32} {nextNumber : Int32} {total : Int32} {removedFares : Int32} {meetings : Int32} {p1_numbers : Nat → Int32} {p1_cells : Nat → Int32} {p1_fares : Nat → Int32} {p1_count : Int32} {p1_nextNumber : Int32} {p1_total : Int32} {p1_removedFares : Int32} {p1_meetings : Int32} {X : (Nat → Int32) × (Nat → Int32) × (Nat → Int32) × Int32 × Int32 × Int32 × Int32 × Int32} (hf : f_X3_copyFrom numbers cells fares p1_numbers p1_cells p1_fares p1_count p1_nextNumber p1_total p1_removedFares p1_meetings = some X) (hp_this : At3 G w b numbers cells fares count nextNumber total removedFares meetings) (hp_p1 : At3 G w b1 p1_numbers p1_cells p1_fares p1_count p1_nextNumber p1_total p1_removedFares p1_meetings) (hd0 : b + 4 ≤ b1 ∨ b1 + 4 ≤ b) : Met l yX3_copyFrom (Cond.code yX3_copyFrom cX3_copyFrom 2 none :: gAll) ({ frames := 1, cells := 0, slots := 0, locals := 60 }) (va_Pc [.ref b, .ref b1] (mm_Pre G w sz)) (mm_Qv G w sz (fun w' => At3 G w' b X.1 X.2.1 X.2.2.1 X.2.2.2.1 X.2.2.2.2.1 X.2.2.2.2.2.1 X.2.2.2.2.2.2.1 X.2.2.2.2.2.2.2 ∧ mm_fr w w' b (b + 4))) 0 0 (va_A w sz) := by
  refine mm_headV [.ref b, .ref b1] (by decide +kernel) rfl (Nat.le_of_ble_eq_true rfl) ?_
  intro p e s m args below meth c A Q hsz hC hM hret hnm ls hl
  have hx := hC.1.1
  have hb := hC.1.2.1
  have hl : lv_has ls 2 [(0, .ref b), (1, .ref b1)] := hl
  have hF : mm_fr w w b (b + 4) := mm_fr.rf
  rw [f_X3_copyFrom] at hf
  refine lv_aload_n hx hb dX3_copyFrom_0 rfl (lv_at hl 1 rfl) ?_
  refine mm_get hC hM (k := 0) hp_p1.1 rfl inAX3 (by decide) q1_73 rfl dX3_copyFrom_1 ?_
  refine lv_iconst (v := 0) hx hb dX3_copyFrom_4 (by decide) ?_
  refine lv_aload_n hx hb dX3_copyFrom_5 rfl (lv_at hl 0 rfl) ?_
  refine mm_get hC hM (k := 0) hp_this.1 rfl inAX3 (by decide) q1_73 rfl dX3_copyFrom_6 ?_
  refine lv_iconst (v := 0) hx hb dX3_copyFrom_9 (by decide) ?_
  refine lv_iconst (v := 4) hx hb dX3_copyFrom_10 (by decide) ?_
  refine mm_copy (S1 := 0) (D1 := 0) (N1 := 4) hC hM (hp_p1.2.1) (hp_this.2.1) (by decide) (by decide) (by decide) (by decide) (by decide) (by decide) (by decide) (by decide) (hC.1.2.2.1.trans hl.1.symm) q3_77 q2_235 q2_234 q1_19 (Nat.le_of_ble_eq_true rfl) (Nat.le_of_ble_eq_true rfl) dX3_copyFrom_11 (fun w11 H locs hM hm => ?_)
  have hp_this : At3 G w11 b (va_cpy p1_numbers numbers 0 0 4) cells fares count nextNumber total removedFares meetings := ⟨hm.keep (hp_this.1) (by omega), hm.1, hm.keep (hp_this.2.2.1) (by omega), hm.keep (hp_this.2.2.2) (by omega)⟩
  have hp_p1 := hp_p1.up hm (by omega)
  have hF := hF.tr (hm.fr (by omega) (by omega))
  refine lv_aload_n hx hb dX3_copyFrom_14 rfl (lv_at hl 1 rfl) ?_
  refine mm_get hC hM (k := 1) hp_p1.1 rfl inAX3 (by decide) q1_76 rfl dX3_copyFrom_15 ?_
  refine lv_iconst (v := 0) hx hb dX3_copyFrom_18 (by decide) ?_
  refine lv_aload_n hx hb dX3_copyFrom_19 rfl (lv_at hl 0 rfl) ?_
  refine mm_get hC hM (k := 1) hp_this.1 rfl inAX3 (by decide) q1_76 rfl dX3_copyFrom_20 ?_
  refine lv_iconst (v := 0) hx hb dX3_copyFrom_23 (by decide) ?_
  refine lv_iconst (v := 4) hx hb dX3_copyFrom_24 (by decide) ?_
  refine mm_copy (S1 := 0) (D1 := 0) (N1 := 4) hC hM (hp_p1.2.2.1) (hp_this.2.2.1) (by decide) (by decide) (by decide) (by decide) (by decide) (by decide) (by decide) (by decide) (hC.1.2.2.1.trans hl.1.symm) q3_77 q2_235 q2_234 q1_19 (Nat.le_of_ble_eq_true rfl) (Nat.le_of_ble_eq_true rfl) dX3_copyFrom_25 (fun w25 H locs hM hm => ?_)
  have hp_this : At3 G w25 b (va_cpy p1_numbers numbers 0 0 4) (va_cpy p1_cells cells 0 0 4) fares count nextNumber total removedFares meetings := ⟨hm.keep (hp_this.1) (by omega), hm.keep (hp_this.2.1) (by omega), hm.1, hm.keep (hp_this.2.2.2) (by omega)⟩
  have hp_p1 := hp_p1.up hm (by omega)
  have hF := hF.tr (hm.fr (by omega) (by omega))
  refine lv_aload_n hx hb dX3_copyFrom_28 rfl (lv_at hl 1 rfl) ?_
  refine mm_get hC hM (k := 2) hp_p1.1 rfl inAX3 (by decide) q1_79 rfl dX3_copyFrom_29 ?_
  refine lv_iconst (v := 0) hx hb dX3_copyFrom_32 (by decide) ?_
  refine lv_aload_n hx hb dX3_copyFrom_33 rfl (lv_at hl 0 rfl) ?_
  refine mm_get hC hM (k := 2) hp_this.1 rfl inAX3 (by decide) q1_79 rfl dX3_copyFrom_34 ?_
  refine lv_iconst (v := 0) hx hb dX3_copyFrom_37 (by decide) ?_
  refine lv_iconst (v := 4) hx hb dX3_copyFrom_38 (by decide) ?_
  refine mm_copy (S1 := 0) (D1 := 0) (N1 := 4) hC hM (hp_p1.2.2.2) (hp_this.2.2.2) (by decide) (by decide) (by decide) (by decide) (by decide) (by decide) (by decide) (by decide) (hC.1.2.2.1.trans hl.1.symm) q3_77 q2_235 q2_234 q1_19 (Nat.le_of_ble_eq_true rfl) (Nat.le_of_ble_eq_true rfl) dX3_copyFrom_39 (fun w39 H locs hM hm => ?_)
  have hp_this : At3 G w39 b (va_cpy p1_numbers numbers 0 0 4) (va_cpy p1_cells cells 0 0 4) (va_cpy p1_fares fares 0 0 4) count nextNumber total removedFares meetings := ⟨hm.keep (hp_this.1) (by omega), hm.keep (hp_this.2.1) (by omega), hm.keep (hp_this.2.2.1) (by omega), hm.1⟩
  have hp_p1 := hp_p1.up hm (by omega)
  have hF := hF.tr (hm.fr (by omega) (by omega))
  refine lv_aload_n hx hb dX3_copyFrom_42 rfl (lv_at hl 0 rfl) ?_
  refine lv_aload_n hx hb dX3_copyFrom_43 rfl (lv_at hl 1 rfl) ?_
  refine mm_get hC hM (k := 3) hp_p1.1 rfl inAX3 (by decide) q1_81 rfl dX3_copyFrom_44 ?_
  refine mm_put hC hM (k := 3) tyX3 hp_this.1 rfl inAX3 tyX3_ok nmX3 (by decide) q1_81 rfl rfl rfl rfl (Nat.le_of_ble_eq_true rfl) dX3_copyFrom_47 (fun w47 H locs hM hm => ?_)
  have hp_this : At3 G w47 b (va_cpy p1_numbers numbers 0 0 4) (va_cpy p1_cells cells 0 0 4) (va_cpy p1_fares fares 0 0 4) p1_count nextNumber total removedFares meetings := ⟨hm.1, hm.keep (hp_this.2.1) (by omega), hm.keep (hp_this.2.2.1) (by omega), hm.keep (hp_this.2.2.2) (by omega)⟩
  have hp_p1 := hp_p1.up hm (by omega)
  have hF := hF.tr (hm.fr (by omega) (by omega))
  refine lv_aload_n hx hb dX3_copyFrom_50 rfl (lv_at hl 0 rfl) ?_
  refine lv_aload_n hx hb dX3_copyFrom_51 rfl (lv_at hl 1 rfl) ?_
  refine mm_get hC hM (k := 4) hp_p1.1 rfl inAX3 (by decide) q1_84 rfl dX3_copyFrom_52 ?_
  refine mm_put hC hM (k := 4) tyX3 hp_this.1 rfl inAX3 tyX3_ok nmX3 (by decide) q1_84 rfl rfl rfl rfl (Nat.le_of_ble_eq_true rfl) dX3_copyFrom_55 (fun w55 H locs hM hm => ?_)
  have hp_this : At3 G w55 b (va_cpy p1_numbers numbers 0 0 4) (va_cpy p1_cells cells 0 0 4) (va_cpy p1_fares fares 0 0 4) p1_count p1_nextNumber total removedFares meetings := ⟨hm.1, hm.keep (hp_this.2.1) (by omega), hm.keep (hp_this.2.2.1) (by omega), hm.keep (hp_this.2.2.2) (by omega)⟩
  have hp_p1 := hp_p1.up hm (by omega)
  have hF := hF.tr (hm.fr (by omega) (by omega))
  refine lv_aload_n hx hb dX3_copyFrom_58 rfl (lv_at hl 0 rfl) ?_
  refine lv_aload_n hx hb dX3_copyFrom_59 rfl (lv_at hl 1 rfl) ?_
  refine mm_get hC hM (k := 5) hp_p1.1 rfl inAX3 (by decide) q1_85 rfl dX3_copyFrom_60 ?_
  refine mm_put hC hM (k := 5) tyX3 hp_this.1 rfl inAX3 tyX3_ok nmX3 (by decide) q1_85 rfl rfl rfl rfl (Nat.le_of_ble_eq_true rfl) dX3_copyFrom_63 (fun w63 H locs hM hm => ?_)
  have hp_this : At3 G w63 b (va_cpy p1_numbers numbers 0 0 4) (va_cpy p1_cells cells 0 0 4) (va_cpy p1_fares fares 0 0 4) p1_count p1_nextNumber p1_total removedFares meetings := ⟨hm.1, hm.keep (hp_this.2.1) (by omega), hm.keep (hp_this.2.2.1) (by omega), hm.keep (hp_this.2.2.2) (by omega)⟩
  have hp_p1 := hp_p1.up hm (by omega)
  have hF := hF.tr (hm.fr (by omega) (by omega))
  refine lv_aload_n hx hb dX3_copyFrom_66 rfl (lv_at hl 0 rfl) ?_
  refine lv_aload_n hx hb dX3_copyFrom_67 rfl (lv_at hl 1 rfl) ?_
  refine mm_get hC hM (k := 6) hp_p1.1 rfl inAX3 (by decide) q1_87 rfl dX3_copyFrom_68 ?_
  refine mm_put hC hM (k := 6) tyX3 hp_this.1 rfl inAX3 tyX3_ok nmX3 (by decide) q1_87 rfl rfl rfl rfl (Nat.le_of_ble_eq_true rfl) dX3_copyFrom_71 (fun w71 H locs hM hm => ?_)
  have hp_this : At3 G w71 b (va_cpy p1_numbers numbers 0 0 4) (va_cpy p1_cells cells 0 0 4) (va_cpy p1_fares fares 0 0 4) p1_count p1_nextNumber p1_total p1_removedFares meetings := ⟨hm.1, hm.keep (hp_this.2.1) (by omega), hm.keep (hp_this.2.2.1) (by omega), hm.keep (hp_this.2.2.2) (by omega)⟩
  have hp_p1 := hp_p1.up hm (by omega)
  have hF := hF.tr (hm.fr (by omega) (by omega))
  refine lv_aload_n hx hb dX3_copyFrom_74 rfl (lv_at hl 0 rfl) ?_
  refine lv_aload_n hx hb dX3_copyFrom_75 rfl (lv_at hl 1 rfl) ?_
  refine mm_get hC hM (k := 7) hp_p1.1 rfl inAX3 (by decide) q1_89 rfl dX3_copyFrom_76 ?_
  refine mm_put hC hM (k := 7) tyX3 hp_this.1 rfl inAX3 tyX3_ok nmX3 (by decide) q1_89 rfl rfl rfl rfl (Nat.le_of_ble_eq_true rfl) dX3_copyFrom_79 (fun w79 H locs hM hm => ?_)
  have hp_this : At3 G w79 b (va_cpy p1_numbers numbers 0 0 4) (va_cpy p1_cells cells 0 0 4) (va_cpy p1_fares fares 0 0 4) p1_count p1_nextNumber p1_total p1_removedFares p1_meetings := ⟨hm.1, hm.keep (hp_this.2.1) (by omega), hm.keep (hp_this.2.2.1) (by omega), hm.keep (hp_this.2.2.2) (by omega)⟩
  have hp_p1 := hp_p1.up hm (by omega)
  have hF := hF.tr (hm.fr (by omega) (by omega))
  cases hf
  exact hret hM dX3_copyFrom_82 ⟨hp_this, hF⟩
def f_X3_placeOf_L2 (numbers : Nat → Int32) (count : Int32) (x1 : Int32) : Nat → (Int32) → Option (Int32)
  | 0, _ => none
  | n + 1, x2 => if count ≤ x2 then some (-1) else mm_g (mm_ck x2 4) (if (numbers x2.toNatClampNeg) = x1 then some x2 else f_X3_placeOf_L2 numbers count x1 n (x2 + 1))
def f_X3_placeOf (K : Nat) (numbers : Nat → Int32) (count : Int32) (x1 : Int32) : Option (Int32) := f_X3_placeOf_L2 numbers count x1 K 0
set_option maxHeartbeats 4000000 in
set_option maxRecDepth 100000 in
theorem c_X3_placeOf (l : Launch) {G : mm_G} {K : Nat} {w : va_W} {sz : Nat} {b : Nat} {numbers : Nat → Int32} {cells : Nat → Int32} {fares : Nat → Int32} {count : Int32} {nextNumber : Int32} {total : Int32} {removedFares : Int32} {meetings : Int32} {x1 : Int32} {X : Int32} (hf : f_X3_placeOf K numbers count x1 = some X) (hp_this : At3 G w b numbers cells fares count nextNumber total removedFares meetings) : Met l yX3_placeOf (Cond.code yX3_placeOf cX3_placeOf 3 (some .int) :: gAll) ({ frames := 0, cells := 0, slots := 0, locals := 0 }) (va_Pc [.ref b, .int x1] (mm_Pre G w sz)) (mm_Qi G w sz (fun r w' => r = X ∧ w' = w)) 0 0 (va_A w sz) := by
  refine mm_headI [.ref b, .int x1] (by decide +kernel) rfl (Nat.le_of_ble_eq_true rfl) ?_
  intro p e s m args below meth c A Q hsz hC hM hret ls hl
  have hx := hC.1.1
  have hb := hC.1.2.1
  have hl : lv_has ls 3 [(0, .ref b), (1, .int x1)] := hl
  rw [f_X3_placeOf] at hf
  refine lv_iconst (v := 0) hx hb dX3_placeOf_0 (by decide) ?_
  refine lv_istore_n (lv' := [(2, .int 0), (0, .ref b), (1, .int x1)]) hx hb dX3_placeOf_1 rfl hl (by decide) rfl (fun ls hl => ?_)
  have L2 : ∀ (n : Nat) (L2_x2 : Int32), f_X3_placeOf_L2 numbers count x1 n L2_x2 = some X → ∀ (H : Heap) (locs : List Loc), mm_S G A s.heap w H locs → ∀ (ls : Array Slot), lv_has ls 3 [(0, .ref b), (1, .int x1), (2, .int L2_x2)] → W p l e ({ frames := 0, cells := 0, slots := 0, locals := 0 } : Room) s m args below meth c H locs 0 0 Q (F0 m 2 ls []) := by
    intro n
    induction n with
    | zero => intro L2_x2 hf; cases hf
    | succ n ih =>
      intro L2_x2 hf H locs hM ls hl
      rw [f_X3_placeOf_L2] at hf
      refine lv_iload_n hx hb dX3_placeOf_2 rfl (lv_at hl 2 rfl) ?_
      refine lv_aload_n hx hb dX3_placeOf_3 rfl (lv_at hl 0 rfl) ?_
      refine mm_get hC hM (k := 3) hp_this.1 rfl inAX3 (by decide) q1_81 rfl dX3_placeOf_4 ?_
      refine lv_icmp_ge (tgt := 28) hx hb dX3_placeOf_7 (by decide) (fun hcd => ?_) (fun hcd => ?_)
      · rw [if_pos hcd] at hf
        refine lv_iconst (v := (-1)) hx hb dX3_placeOf_28 (by decide) ?_
        cases hf
        exact hret hM dX3_placeOf_29 rfl ⟨rfl, rfl⟩
      · rw [if_neg hcd] at hf
        refine lv_aload_n hx hb dX3_placeOf_10 rfl (lv_at hl 0 rfl) ?_
        refine mm_get hC hM (k := 0) hp_this.1 rfl inAX3 (by decide) q1_73 rfl dX3_placeOf_11 ?_
        refine lv_iload_n hx hb dX3_placeOf_14 rfl (lv_at hl 2 rfl) ?_
        obtain ⟨hg15, hf⟩ := mm_gd hf
        refine mm_iald hC hM (hp_this.2.1) hg15 dX3_placeOf_15 ?_
        refine lv_iload_n hx hb dX3_placeOf_16 rfl (lv_at hl 1 rfl) ?_
        refine lv_icmp_ne (tgt := 22) hx hb dX3_placeOf_17 (by decide) (fun hcd => ?_) (fun hcd => ?_)
        · rw [if_neg hcd] at hf
          refine lv_iinc (v := (L2_x2 + 1)) (lv' := [(2, .int (L2_x2 + 1)), (0, .ref b), (1, .int x1)]) hx hb dX3_placeOf_22 hl (k := 2) rfl rfl (by decide) rfl (fun ls hl => ?_)
          refine lv_goto (tgt := 2) hx hb dX3_placeOf_25 (by decide) ?_
          exact ih _ hf _ _ hM _ (lv_sub hl [1, 2, 0] rfl)
        · rw [if_pos hcd] at hf
          refine lv_iload_n hx hb dX3_placeOf_20 rfl (lv_at hl 2 rfl) ?_
          cases hf
          exact hret hM dX3_placeOf_21 rfl ⟨rfl, rfl⟩
  exact L2 K _ hf _ _ hM _ (lv_sub hl [1, 2, 0] rfl)
def f_X3_placeIn_L2 (cells : Nat → Int32) (count : Int32) (x1 : Int32) : Nat → (Int32) → Option (Int32)
  | 0, _ => none
  | n + 1, x2 => if count ≤ x2 then some (-1) else mm_g (mm_ck x2 4) (if (cells x2.toNatClampNeg) = x1 then some x2 else f_X3_placeIn_L2 cells count x1 n (x2 + 1))
def f_X3_placeIn (K : Nat) (cells : Nat → Int32) (count : Int32) (x1 : Int32) : Option (Int32) := f_X3_placeIn_L2 cells count x1 K 0
set_option maxHeartbeats 4000000 in
set_option maxRecDepth 100000 in
theorem c_X3_placeIn (l : Launch) {G : mm_G} {K : Nat} {w : va_W} {sz : Nat} {b : Nat} {numbers : Nat → Int32} {cells : Nat → Int32} {fares : Nat → Int32} {count : Int32} {nextNumber : Int32} {total : Int32} {removedFares : Int32} {meetings : Int32} {x1 : Int32} {X : Int32} (hf : f_X3_placeIn K cells count x1 = some X) (hp_this : At3 G w b numbers cells fares count nextNumber total removedFares meetings) : Met l yX3_placeIn (Cond.code yX3_placeIn cX3_placeIn 3 (some .int) :: gAll) ({ frames := 0, cells := 0, slots := 0, locals := 0 }) (va_Pc [.ref b, .int x1] (mm_Pre G w sz)) (mm_Qi G w sz (fun r w' => r = X ∧ w' = w)) 0 0 (va_A w sz) := by
  refine mm_headI [.ref b, .int x1] (by decide +kernel) rfl (Nat.le_of_ble_eq_true rfl) ?_
  intro p e s m args below meth c A Q hsz hC hM hret ls hl
  have hx := hC.1.1
  have hb := hC.1.2.1
  have hl : lv_has ls 3 [(0, .ref b), (1, .int x1)] := hl
  rw [f_X3_placeIn] at hf
  refine lv_iconst (v := 0) hx hb dX3_placeIn_0 (by decide) ?_
  refine lv_istore_n (lv' := [(2, .int 0), (0, .ref b), (1, .int x1)]) hx hb dX3_placeIn_1 rfl hl (by decide) rfl (fun ls hl => ?_)
  have L2 : ∀ (n : Nat) (L2_x2 : Int32), f_X3_placeIn_L2 cells count x1 n L2_x2 = some X → ∀ (H : Heap) (locs : List Loc), mm_S G A s.heap w H locs → ∀ (ls : Array Slot), lv_has ls 3 [(0, .ref b), (1, .int x1), (2, .int L2_x2)] → W p l e ({ frames := 0, cells := 0, slots := 0, locals := 0 } : Room) s m args below meth c H locs 0 0 Q (F0 m 2 ls []) := by
    intro n
    induction n with
    | zero => intro L2_x2 hf; cases hf
    | succ n ih =>
      intro L2_x2 hf H locs hM ls hl
      rw [f_X3_placeIn_L2] at hf
      refine lv_iload_n hx hb dX3_placeIn_2 rfl (lv_at hl 2 rfl) ?_
      refine lv_aload_n hx hb dX3_placeIn_3 rfl (lv_at hl 0 rfl) ?_
      refine mm_get hC hM (k := 3) hp_this.1 rfl inAX3 (by decide) q1_81 rfl dX3_placeIn_4 ?_
      refine lv_icmp_ge (tgt := 28) hx hb dX3_placeIn_7 (by decide) (fun hcd => ?_) (fun hcd => ?_)
      · rw [if_pos hcd] at hf
        refine lv_iconst (v := (-1)) hx hb dX3_placeIn_28 (by decide) ?_
        cases hf
        exact hret hM dX3_placeIn_29 rfl ⟨rfl, rfl⟩
      · rw [if_neg hcd] at hf
        refine lv_aload_n hx hb dX3_placeIn_10 rfl (lv_at hl 0 rfl) ?_
        refine mm_get hC hM (k := 1) hp_this.1 rfl inAX3 (by decide) q1_76 rfl dX3_placeIn_11 ?_
        refine lv_iload_n hx hb dX3_placeIn_14 rfl (lv_at hl 2 rfl) ?_
        obtain ⟨hg15, hf⟩ := mm_gd hf
        refine mm_iald hC hM (hp_this.2.2.1) hg15 dX3_placeIn_15 ?_
        refine lv_iload_n hx hb dX3_placeIn_16 rfl (lv_at hl 1 rfl) ?_
        refine lv_icmp_ne (tgt := 22) hx hb dX3_placeIn_17 (by decide) (fun hcd => ?_) (fun hcd => ?_)
        · rw [if_neg hcd] at hf
          refine lv_iinc (v := (L2_x2 + 1)) (lv' := [(2, .int (L2_x2 + 1)), (0, .ref b), (1, .int x1)]) hx hb dX3_placeIn_22 hl (k := 2) rfl rfl (by decide) rfl (fun ls hl => ?_)
          refine lv_goto (tgt := 2) hx hb dX3_placeIn_25 (by decide) ?_
          exact ih _ hf _ _ hM _ (lv_sub hl [1, 2, 0] rfl)
        · rw [if_pos hcd] at hf
          refine lv_iload_n hx hb dX3_placeIn_20 rfl (lv_at hl 2 rfl) ?_
          cases hf
          exact hret hM dX3_placeIn_21 rfl ⟨rfl, rfl⟩
  exact L2 K _ hf _ _ hM _ (lv_sub hl [1, 2, 0] rfl)
def f_X3_occupies_L2 (cells : Nat → Int32) (count : Int32) (x1 : Int32) (x2 : Int32) : Nat → (Int32) → Option (Int32)
  | 0, _ => none
  | n + 1, x3 => if count ≤ x3 then some 0 else mm_g (mm_ck x3 4) (if (cells x3.toNatClampNeg) = x1 then if x3 = x2 then f_X3_occupies_L2 cells count x1 x2 n (x3 + 1) else some 1 else mm_g (mm_ck x3 4) ((f_X12_image (cells x3.toNatClampNeg)).bind fun q26 => if q26 = x1 then if x3 = x2 then f_X3_occupies_L2 cells count x1 x2 n (x3 + 1) else some 1 else f_X3_occupies_L2 cells count x1 x2 n (x3 + 1)))
def f_X3_occupies (K : Nat) (cells : Nat → Int32) (count : Int32) (x1 : Int32) (x2 : Int32) : Option (Int32) := f_X3_occupies_L2 cells count x1 x2 K 0
set_option maxHeartbeats 4000000 in
set_option maxRecDepth 100000 in
theorem c_X3_occupies (l : Launch) {G : mm_G} {K : Nat} {w : va_W} {sz : Nat} {b : Nat} {numbers : Nat → Int32} {cells : Nat → Int32} {fares : Nat → Int32} {count : Int32} {nextNumber : Int32} {total : Int32} {removedFares : Int32} {meetings : Int32} {x1 : Int32} {x2 : Int32} {X : Int32} (hf : f_X3_occupies K cells count x1 x2 = some X) (hp_this : At3 G w b numbers cells fares count nextNumber total removedFares meetings) : Met l yX3_occupies (Cond.code yX3_occupies cX3_occupies 5 (some .boolean) :: gAll) ({ frames := 1, cells := 0, slots := 0, locals := 20 }) (va_Pc [.ref b, .int x1, .int x2] (mm_Pre G w sz)) (mm_Qi G w sz (fun r w' => r = X ∧ w' = w)) 0 0 (va_A w sz) := by
  refine mm_headI [.ref b, .int x1, .int x2] (by decide +kernel) rfl (Nat.le_of_ble_eq_true rfl) ?_
  intro p e s m args below meth c A Q hsz hC hM hret ls hl
  have hx := hC.1.1
  have hb := hC.1.2.1
  have hl : lv_has ls 5 [(0, .ref b), (1, .int x1), (2, .int x2)] := hl
  rw [f_X3_occupies] at hf
  refine lv_iconst (v := 0) hx hb dX3_occupies_0 (by decide) ?_
  refine lv_istore_n (lv' := [(3, .int 0), (0, .ref b), (1, .int x1), (2, .int x2)]) hx hb dX3_occupies_1 rfl hl (by decide) rfl (fun ls hl => ?_)
  have L2 : ∀ (n : Nat) (L2_x3 : Int32), f_X3_occupies_L2 cells count x1 x2 n L2_x3 = some X → ∀ (H : Heap) (locs : List Loc), mm_S G A s.heap w H locs → ∀ (ls : Array Slot), lv_has ls 5 [(0, .ref b), (1, .int x1), (2, .int x2), (3, .int L2_x3)] → W p l e ({ frames := 1, cells := 0, slots := 0, locals := 20 } : Room) s m args below meth c H locs 0 0 Q (F0 m 2 ls []) := by
    intro n
    induction n with
    | zero => intro L2_x3 hf; cases hf
    | succ n ih =>
      intro L2_x3 hf H locs hM ls hl
      rw [f_X3_occupies_L2] at hf
      refine lv_iload_n hx hb dX3_occupies_2 rfl (lv_at hl 3 rfl) ?_
      refine lv_aload_n hx hb dX3_occupies_3 rfl (lv_at hl 0 rfl) ?_
      refine mm_get hC hM (k := 3) hp_this.1 rfl inAX3 (by decide) q1_81 rfl dX3_occupies_4 ?_
      refine lv_icmp_ge (tgt := 58) hx hb dX3_occupies_7 (by decide) (fun hcd => ?_) (fun hcd => ?_)
      · rw [if_pos hcd] at hf
        refine lv_iconst (v := 0) hx hb dX3_occupies_58 (by decide) ?_
        cases hf
        exact hret hM dX3_occupies_59 rfl ⟨rfl, rfl⟩
      · rw [if_neg hcd] at hf
        refine lv_aload_n hx hb dX3_occupies_10 rfl (lv_at hl 0 rfl) ?_
        refine mm_get hC hM (k := 1) hp_this.1 rfl inAX3 (by decide) q1_76 rfl dX3_occupies_11 ?_
        refine lv_iload_n hx hb dX3_occupies_14 rfl (lv_at hl 3 rfl) ?_
        obtain ⟨hg15, hf⟩ := mm_gd hf
        refine mm_iald hC hM (hp_this.2.2.1) hg15 dX3_occupies_15 ?_
        refine lv_iload_n hx hb dX3_occupies_16 rfl (lv_at hl 1 rfl) ?_
        refine lv_icmp_eq (tgt := 33) hx hb dX3_occupies_17 (by decide) (fun hcd => ?_) (fun hcd => ?_)
        · rw [if_pos hcd] at hf
          refine lv_iconst (v := 1) hx hb dX3_occupies_33 (by decide) ?_
          refine lv_goto (tgt := 38) hx hb dX3_occupies_34 (by decide) ?_
          refine lv_istore (lv' := [(4, .int 1), (0, .ref b), (1, .int x1), (2, .int x2), (3, .int L2_x3)]) hx hb dX3_occupies_38 hl (by decide) rfl (fun ls hl => ?_)
          refine lv_iload hx hb dX3_occupies_40 (lv_at hl 0 rfl) ?_
          refine lv_if_eq (tgt := 52) hx hb dX3_occupies_42 (by decide) (fun c => absurd c (by decide)) (fun _ => ?_)
          refine lv_iload_n hx hb dX3_occupies_45 rfl (lv_at hl 4 rfl) ?_
          refine lv_iload_n hx hb dX3_occupies_46 rfl (lv_at hl 3 rfl) ?_
          refine lv_icmp_eq (tgt := 52) hx hb dX3_occupies_47 (by decide) (fun hcd => ?_) (fun hcd => ?_)
          · rw [if_pos hcd] at hf
            refine lv_iinc (v := (L2_x3 + 1)) (lv' := [(3, .int (L2_x3 + 1)), (4, .int 1), (0, .ref b), (1, .int x1), (2, .int x2)]) hx hb dX3_occupies_52 hl (k := 4) rfl rfl (by decide) rfl (fun ls hl => ?_)
            refine lv_goto (tgt := 2) hx hb dX3_occupies_55 (by decide) ?_
            exact ih _ hf _ _ hM _ (lv_sub hl [2, 3, 4, 0] rfl)
          · rw [if_neg hcd] at hf
            refine lv_iconst (v := 1) hx hb dX3_occupies_50 (by decide) ?_
            cases hf
            exact hret hM dX3_occupies_51 rfl ⟨rfl, rfl⟩
        · rw [if_neg hcd] at hf
          refine lv_aload_n hx hb dX3_occupies_20 rfl (lv_at hl 0 rfl) ?_
          refine mm_get hC hM (k := 1) hp_this.1 rfl inAX3 (by decide) q1_76 rfl dX3_occupies_21 ?_
          refine lv_iload_n hx hb dX3_occupies_24 rfl (lv_at hl 3 rfl) ?_
          obtain ⟨hg25, hf⟩ := mm_gd hf
          refine mm_iald hC hM (hp_this.2.2.1) hg25 dX3_occupies_25 ?_
          obtain ⟨q26, hq26, hf⟩ := mm_bd hf
          refine mm_SNi (rest := []) hC hM (c_X12_image l hq26) q2_75 q1_1 ykX12_image q3_193 q2_74 ⟨rfl, rfl⟩ ⟨Nat.le_of_ble_eq_true rfl, Nat.le_of_ble_eq_true rfl⟩ rfl hl.1 rfl (Nat.le_of_ble_eq_true rfl) dX3_occupies_26 ⟨Nat.le_of_ble_eq_true rfl, Nat.le_of_ble_eq_true rfl⟩ (fun r w26 H locs hM hw => ?_)
          obtain ⟨hr, hw⟩ := hw
          rw [hr]
          rw [hw] at hM
          refine lv_iload_n hx hb dX3_occupies_29 rfl (lv_at hl 1 rfl) ?_
          refine lv_icmp_ne (tgt := 37) hx hb dX3_occupies_30 (by decide) (fun hcd => ?_) (fun hcd => ?_)
          · rw [if_neg hcd] at hf
            refine lv_iconst (v := 0) hx hb dX3_occupies_37 (by decide) ?_
            refine lv_istore (lv' := [(4, .int 0), (0, .ref b), (1, .int x1), (2, .int x2), (3, .int L2_x3)]) hx hb dX3_occupies_38 hl (by decide) rfl (fun ls hl => ?_)
            refine lv_iload hx hb dX3_occupies_40 (lv_at hl 0 rfl) ?_
            refine lv_if_eq (tgt := 52) hx hb dX3_occupies_42 (by decide) (fun _ => ?_) (fun c => absurd (by decide) c)
            refine lv_iinc (v := (L2_x3 + 1)) (lv' := [(3, .int (L2_x3 + 1)), (4, .int 0), (0, .ref b), (1, .int x1), (2, .int x2)]) hx hb dX3_occupies_52 hl (k := 4) rfl rfl (by decide) rfl (fun ls hl => ?_)
            refine lv_goto (tgt := 2) hx hb dX3_occupies_55 (by decide) ?_
            exact ih _ hf _ _ hM _ (lv_sub hl [2, 3, 4, 0] rfl)
          · rw [if_pos hcd] at hf
            refine lv_iconst (v := 1) hx hb dX3_occupies_33 (by decide) ?_
            refine lv_goto (tgt := 38) hx hb dX3_occupies_34 (by decide) ?_
            refine lv_istore (lv' := [(4, .int 1), (0, .ref b), (1, .int x1), (2, .int x2), (3, .int L2_x3)]) hx hb dX3_occupies_38 hl (by decide) rfl (fun ls hl => ?_)
            refine lv_iload hx hb dX3_occupies_40 (lv_at hl 0 rfl) ?_
            refine lv_if_eq (tgt := 52) hx hb dX3_occupies_42 (by decide) (fun c => absurd c (by decide)) (fun _ => ?_)
            refine lv_iload_n hx hb dX3_occupies_45 rfl (lv_at hl 4 rfl) ?_
            refine lv_iload_n hx hb dX3_occupies_46 rfl (lv_at hl 3 rfl) ?_
            refine lv_icmp_eq (tgt := 52) hx hb dX3_occupies_47 (by decide) (fun hcd => ?_) (fun hcd => ?_)
            · rw [if_pos hcd] at hf
              refine lv_iinc (v := (L2_x3 + 1)) (lv' := [(3, .int (L2_x3 + 1)), (4, .int 1), (0, .ref b), (1, .int x1), (2, .int x2)]) hx hb dX3_occupies_52 hl (k := 4) rfl rfl (by decide) rfl (fun ls hl => ?_)
              refine lv_goto (tgt := 2) hx hb dX3_occupies_55 (by decide) ?_
              exact ih _ hf _ _ hM _ (lv_sub hl [2, 3, 4, 0] rfl)
            · rw [if_neg hcd] at hf
              refine lv_iconst (v := 1) hx hb dX3_occupies_50 (by decide) ?_
              cases hf
              exact hret hM dX3_occupies_51 rfl ⟨rfl, rfl⟩
  exact L2 K _ hf _ _ hM _ (lv_sub hl [1, 2, 3, 0] rfl)
def f_X3_rankOf_L4 (fares : Nat → Int32) (count : Int32) (x1 : Int32) : Nat → (Int32) → (Int32) → Option (Int32)
  | 0, _, _ => none
  | n + 1, x2, x3 => if count ≤ x3 then some x2 else mm_g (mm_ck x3 4) (mm_g (mm_ck x1 4) (if (fares x3.toNatClampNeg) ≤ (fares x1.toNatClampNeg) then mm_g (mm_ck x3 4) (mm_g (mm_ck x1 4) (if (fares x3.toNatClampNeg) = (fares x1.toNatClampNeg) then if x1 ≤ x3 then f_X3_rankOf_L4 fares count x1 n (x2 + 0) (x3 + 1) else f_X3_rankOf_L4 fares count x1 n (x2 + 1) (x3 + 1) else f_X3_rankOf_L4 fares count x1 n (x2 + 0) (x3 + 1))) else mm_g (mm_ck x3 4) (mm_g (mm_ck x1 4) (if (fares x3.toNatClampNeg) = (fares x1.toNatClampNeg) then if x1 ≤ x3 then f_X3_rankOf_L4 fares count x1 n (x2 + 1) (x3 + 1) else f_X3_rankOf_L4 fares count x1 n (x2 + 1) (x3 + 1) else f_X3_rankOf_L4 fares count x1 n (x2 + 1) (x3 + 1)))))
def f_X3_rankOf (K : Nat) (fares : Nat → Int32) (count : Int32) (x1 : Int32) : Option (Int32) := (f_X3_rankOf_L4 fares count x1 K 0 0).bind fun q4 => some q4
set_option maxHeartbeats 4000000 in
set_option maxRecDepth 100000 in
theorem c_X3_rankOf (l : Launch) {G : mm_G} {K : Nat} {w : va_W} {sz : Nat} {b : Nat} {numbers : Nat → Int32} {cells : Nat → Int32} {fares : Nat → Int32} {count : Int32} {nextNumber : Int32} {total : Int32} {removedFares : Int32} {meetings : Int32} {x1 : Int32} {X : Int32} (hf : f_X3_rankOf K fares count x1 = some X) (hp_this : At3 G w b numbers cells fares count nextNumber total removedFares meetings) : Met l yX3_rankOf (Cond.code yX3_rankOf cX3_rankOf 6 (some .int) :: gAll) ({ frames := 0, cells := 0, slots := 0, locals := 0 }) (va_Pc [.ref b, .int x1] (mm_Pre G w sz)) (mm_Qi G w sz (fun r w' => r = X ∧ w' = w)) 0 0 (va_A w sz) := by
  refine mm_headI [.ref b, .int x1] (by decide +kernel) rfl (Nat.le_of_ble_eq_true rfl) ?_
  intro p e s m args below meth c A Q hsz hC hM hret ls hl
  have hx := hC.1.1
  have hb := hC.1.2.1
  have hl : lv_has ls 6 [(0, .ref b), (1, .int x1)] := hl
  rw [f_X3_rankOf] at hf
  refine lv_iconst (v := 0) hx hb dX3_rankOf_0 (by decide) ?_
  refine lv_istore_n (lv' := [(2, .int 0), (0, .ref b), (1, .int x1)]) hx hb dX3_rankOf_1 rfl hl (by decide) rfl (fun ls hl => ?_)
  refine lv_iconst (v := 0) hx hb dX3_rankOf_2 (by decide) ?_
  refine lv_istore_n (lv' := [(3, .int 0), (2, .int 0), (0, .ref b), (1, .int x1)]) hx hb dX3_rankOf_3 rfl hl (by decide) rfl (fun ls hl => ?_)
  have L4 : ∀ (n : Nat) (L4_x2 : Int32) (L4_x3 : Int32) (X : Int32), f_X3_rankOf_L4 fares count x1 n L4_x2 L4_x3 = some X → ∀ (H : Heap) (locs : List Loc), mm_S G A s.heap w H locs → ∀ (ls : Array Slot), lv_has ls 6 [(0, .ref b), (1, .int x1), (2, .int L4_x2), (3, .int L4_x3)] → (∀ (H : Heap) (locs : List Loc), mm_S G A s.heap w H locs → ∀ (ls : Array Slot), lv_has ls 6 [(2, .int X)] → W p l e ({ frames := 0, cells := 0, slots := 0, locals := 0 } : Room) s m args below meth c H locs 0 0 Q (F0 m 85 ls [])) → W p l e ({ frames := 0, cells := 0, slots := 0, locals := 0 } : Room) s m args below meth c H locs 0 0 Q (F0 m 4 ls []) := by
    intro n
    induction n with
    | zero => intro L4_x2 L4_x3 X hf; cases hf
    | succ n ih =>
      intro L4_x2 L4_x3 X hf H locs hM ls hl hk
      rw [f_X3_rankOf_L4] at hf
      refine lv_iload_n hx hb dX3_rankOf_4 rfl (lv_at hl 3 rfl) ?_
      refine lv_aload_n hx hb dX3_rankOf_5 rfl (lv_at hl 0 rfl) ?_
      refine mm_get hC hM (k := 3) hp_this.1 rfl inAX3 (by decide) q1_81 rfl dX3_rankOf_6 ?_
      refine lv_icmp_ge (tgt := 85) hx hb dX3_rankOf_9 (by decide) (fun hcd => ?_) (fun hcd => ?_)
      · rw [if_pos hcd] at hf
        cases hf
        exact hk _ _ hM _ (lv_sub hl [2] rfl)
      · rw [if_neg hcd] at hf
        refine lv_aload_n hx hb dX3_rankOf_12 rfl (lv_at hl 0 rfl) ?_
        refine mm_get hC hM (k := 2) hp_this.1 rfl inAX3 (by decide) q1_79 rfl dX3_rankOf_13 ?_
        refine lv_iload_n hx hb dX3_rankOf_16 rfl (lv_at hl 3 rfl) ?_
        obtain ⟨hg17, hf⟩ := mm_gd hf
        refine mm_iald hC hM (hp_this.2.2.2) hg17 dX3_rankOf_17 ?_
        refine lv_aload_n hx hb dX3_rankOf_18 rfl (lv_at hl 0 rfl) ?_
        refine mm_get hC hM (k := 2) hp_this.1 rfl inAX3 (by decide) q1_79 rfl dX3_rankOf_19 ?_
        refine lv_iload_n hx hb dX3_rankOf_22 rfl (lv_at hl 1 rfl) ?_
        obtain ⟨hg23, hf⟩ := mm_gd hf
        refine mm_iald hC hM (hp_this.2.2.2) hg23 dX3_rankOf_23 ?_
        refine lv_icmp_le (tgt := 31) hx hb dX3_rankOf_24 (by decide) (fun hcd => ?_) (fun hcd => ?_)
        · rw [if_pos hcd] at hf
          refine lv_iconst (v := 0) hx hb dX3_rankOf_31 (by decide) ?_
          refine lv_istore (lv' := [(4, .int 0), (0, .ref b), (1, .int x1), (2, .int L4_x2), (3, .int L4_x3)]) hx hb dX3_rankOf_32 hl (by decide) rfl (fun ls hl => ?_)
          refine lv_aload_n hx hb dX3_rankOf_34 rfl (lv_at hl 1 rfl) ?_
          refine mm_get hC hM (k := 2) hp_this.1 rfl inAX3 (by decide) q1_79 rfl dX3_rankOf_35 ?_
          refine lv_iload_n hx hb dX3_rankOf_38 rfl (lv_at hl 4 rfl) ?_
          obtain ⟨hg39, hf⟩ := mm_gd hf
          refine mm_iald hC hM (hp_this.2.2.2) hg39 dX3_rankOf_39 ?_
          refine lv_aload_n hx hb dX3_rankOf_40 rfl (lv_at hl 1 rfl) ?_
          refine mm_get hC hM (k := 2) hp_this.1 rfl inAX3 (by decide) q1_79 rfl dX3_rankOf_41 ?_
          refine lv_iload_n hx hb dX3_rankOf_44 rfl (lv_at hl 2 rfl) ?_
          obtain ⟨hg45, hf⟩ := mm_gd hf
          refine mm_iald hC hM (hp_this.2.2.2) hg45 dX3_rankOf_45 ?_
          refine lv_icmp_ne (tgt := 58) hx hb dX3_rankOf_46 (by decide) (fun hcd => ?_) (fun hcd => ?_)
          · rw [if_neg hcd] at hf
            refine lv_iconst (v := 0) hx hb dX3_rankOf_58 (by decide) ?_
            refine lv_istore (lv' := [(5, .int 0), (4, .int 0), (0, .ref b), (1, .int x1), (2, .int L4_x2), (3, .int L4_x3)]) hx hb dX3_rankOf_59 hl (by decide) rfl (fun ls hl => ?_)
            refine lv_iload_n hx hb dX3_rankOf_61 rfl (lv_at hl 4 rfl) ?_
            refine lv_iload hx hb dX3_rankOf_62 (lv_at hl 1 rfl) ?_
            refine lv_if_ne (tgt := 72) hx hb dX3_rankOf_64 (by decide) (fun c => absurd (by decide) c) (fun _ => ?_)
            refine lv_iload hx hb dX3_rankOf_67 (lv_at hl 0 rfl) ?_
            refine lv_if_eq (tgt := 76) hx hb dX3_rankOf_69 (by decide) (fun _ => ?_) (fun c => absurd (by decide) c)
            refine lv_iconst (v := 0) hx hb dX3_rankOf_76 (by decide) ?_
            refine lv_iadd hx hb dX3_rankOf_77 ?_
            refine lv_istore_n (lv' := [(2, .int (L4_x2 + 0)), (5, .int 0), (4, .int 0), (0, .ref b), (1, .int x1), (3, .int L4_x3)]) hx hb dX3_rankOf_78 rfl hl (by decide) rfl (fun ls hl => ?_)
            refine lv_iinc (v := (L4_x3 + 1)) (lv' := [(3, .int (L4_x3 + 1)), (2, .int (L4_x2 + 0)), (5, .int 0), (4, .int 0), (0, .ref b), (1, .int x1)]) hx hb dX3_rankOf_79 hl (k := 5) rfl rfl (by decide) rfl (fun ls hl => ?_)
            refine lv_goto (tgt := 4) hx hb dX3_rankOf_82 (by decide) ?_
            exact ih _ _ _ hf _ _ hM _ (lv_sub hl [4, 5, 1, 0] rfl) hk
          · rw [if_pos hcd] at hf
            refine lv_iload_n hx hb dX3_rankOf_49 rfl (lv_at hl 4 rfl) ?_
            refine lv_iload_n hx hb dX3_rankOf_50 rfl (lv_at hl 2 rfl) ?_
            refine lv_icmp_ge (tgt := 58) hx hb dX3_rankOf_51 (by decide) (fun hcd => ?_) (fun hcd => ?_)
            · rw [if_pos hcd] at hf
              refine lv_iconst (v := 0) hx hb dX3_rankOf_58 (by decide) ?_
              refine lv_istore (lv' := [(5, .int 0), (4, .int 0), (0, .ref b), (1, .int x1), (2, .int L4_x2), (3, .int L4_x3)]) hx hb dX3_rankOf_59 hl (by decide) rfl (fun ls hl => ?_)
              refine lv_iload_n hx hb dX3_rankOf_61 rfl (lv_at hl 4 rfl) ?_
              refine lv_iload hx hb dX3_rankOf_62 (lv_at hl 1 rfl) ?_
              refine lv_if_ne (tgt := 72) hx hb dX3_rankOf_64 (by decide) (fun c => absurd (by decide) c) (fun _ => ?_)
              refine lv_iload hx hb dX3_rankOf_67 (lv_at hl 0 rfl) ?_
              refine lv_if_eq (tgt := 76) hx hb dX3_rankOf_69 (by decide) (fun _ => ?_) (fun c => absurd (by decide) c)
              refine lv_iconst (v := 0) hx hb dX3_rankOf_76 (by decide) ?_
              refine lv_iadd hx hb dX3_rankOf_77 ?_
              refine lv_istore_n (lv' := [(2, .int (L4_x2 + 0)), (5, .int 0), (4, .int 0), (0, .ref b), (1, .int x1), (3, .int L4_x3)]) hx hb dX3_rankOf_78 rfl hl (by decide) rfl (fun ls hl => ?_)
              refine lv_iinc (v := (L4_x3 + 1)) (lv' := [(3, .int (L4_x3 + 1)), (2, .int (L4_x2 + 0)), (5, .int 0), (4, .int 0), (0, .ref b), (1, .int x1)]) hx hb dX3_rankOf_79 hl (k := 5) rfl rfl (by decide) rfl (fun ls hl => ?_)
              refine lv_goto (tgt := 4) hx hb dX3_rankOf_82 (by decide) ?_
              exact ih _ _ _ hf _ _ hM _ (lv_sub hl [4, 5, 1, 0] rfl) hk
            · rw [if_neg hcd] at hf
              refine lv_iconst (v := 1) hx hb dX3_rankOf_54 (by decide) ?_
              refine lv_goto (tgt := 59) hx hb dX3_rankOf_55 (by decide) ?_
              refine lv_istore (lv' := [(5, .int 1), (4, .int 0), (0, .ref b), (1, .int x1), (2, .int L4_x2), (3, .int L4_x3)]) hx hb dX3_rankOf_59 hl (by decide) rfl (fun ls hl => ?_)
              refine lv_iload_n hx hb dX3_rankOf_61 rfl (lv_at hl 4 rfl) ?_
              refine lv_iload hx hb dX3_rankOf_62 (lv_at hl 1 rfl) ?_
              refine lv_if_ne (tgt := 72) hx hb dX3_rankOf_64 (by decide) (fun c => absurd (by decide) c) (fun _ => ?_)
              refine lv_iload hx hb dX3_rankOf_67 (lv_at hl 0 rfl) ?_
              refine lv_if_eq (tgt := 76) hx hb dX3_rankOf_69 (by decide) (fun c => absurd c (by decide)) (fun _ => ?_)
              refine lv_iconst (v := 1) hx hb dX3_rankOf_72 (by decide) ?_
              refine lv_goto (tgt := 77) hx hb dX3_rankOf_73 (by decide) ?_
              refine lv_iadd hx hb dX3_rankOf_77 ?_
              refine lv_istore_n (lv' := [(2, .int (L4_x2 + 1)), (5, .int 1), (4, .int 0), (0, .ref b), (1, .int x1), (3, .int L4_x3)]) hx hb dX3_rankOf_78 rfl hl (by decide) rfl (fun ls hl => ?_)
              refine lv_iinc (v := (L4_x3 + 1)) (lv' := [(3, .int (L4_x3 + 1)), (2, .int (L4_x2 + 1)), (5, .int 1), (4, .int 0), (0, .ref b), (1, .int x1)]) hx hb dX3_rankOf_79 hl (k := 5) rfl rfl (by decide) rfl (fun ls hl => ?_)
              refine lv_goto (tgt := 4) hx hb dX3_rankOf_82 (by decide) ?_
              exact ih _ _ _ hf _ _ hM _ (lv_sub hl [4, 5, 1, 0] rfl) hk
        · rw [if_neg hcd] at hf
          refine lv_iconst (v := 1) hx hb dX3_rankOf_27 (by decide) ?_
          refine lv_goto (tgt := 32) hx hb dX3_rankOf_28 (by decide) ?_
          refine lv_istore (lv' := [(4, .int 1), (0, .ref b), (1, .int x1), (2, .int L4_x2), (3, .int L4_x3)]) hx hb dX3_rankOf_32 hl (by decide) rfl (fun ls hl => ?_)
          refine lv_aload_n hx hb dX3_rankOf_34 rfl (lv_at hl 1 rfl) ?_
          refine mm_get hC hM (k := 2) hp_this.1 rfl inAX3 (by decide) q1_79 rfl dX3_rankOf_35 ?_
          refine lv_iload_n hx hb dX3_rankOf_38 rfl (lv_at hl 4 rfl) ?_
          obtain ⟨hg39, hf⟩ := mm_gd hf
          refine mm_iald hC hM (hp_this.2.2.2) hg39 dX3_rankOf_39 ?_
          refine lv_aload_n hx hb dX3_rankOf_40 rfl (lv_at hl 1 rfl) ?_
          refine mm_get hC hM (k := 2) hp_this.1 rfl inAX3 (by decide) q1_79 rfl dX3_rankOf_41 ?_
          refine lv_iload_n hx hb dX3_rankOf_44 rfl (lv_at hl 2 rfl) ?_
          obtain ⟨hg45, hf⟩ := mm_gd hf
          refine mm_iald hC hM (hp_this.2.2.2) hg45 dX3_rankOf_45 ?_
          refine lv_icmp_ne (tgt := 58) hx hb dX3_rankOf_46 (by decide) (fun hcd => ?_) (fun hcd => ?_)
          · rw [if_neg hcd] at hf
            refine lv_iconst (v := 0) hx hb dX3_rankOf_58 (by decide) ?_
            refine lv_istore (lv' := [(5, .int 0), (4, .int 1), (0, .ref b), (1, .int x1), (2, .int L4_x2), (3, .int L4_x3)]) hx hb dX3_rankOf_59 hl (by decide) rfl (fun ls hl => ?_)
            refine lv_iload_n hx hb dX3_rankOf_61 rfl (lv_at hl 4 rfl) ?_
            refine lv_iload hx hb dX3_rankOf_62 (lv_at hl 1 rfl) ?_
            refine lv_if_ne (tgt := 72) hx hb dX3_rankOf_64 (by decide) (fun _ => ?_) (fun c => absurd c (by decide))
            refine lv_iconst (v := 1) hx hb dX3_rankOf_72 (by decide) ?_
            refine lv_goto (tgt := 77) hx hb dX3_rankOf_73 (by decide) ?_
            refine lv_iadd hx hb dX3_rankOf_77 ?_
            refine lv_istore_n (lv' := [(2, .int (L4_x2 + 1)), (5, .int 0), (4, .int 1), (0, .ref b), (1, .int x1), (3, .int L4_x3)]) hx hb dX3_rankOf_78 rfl hl (by decide) rfl (fun ls hl => ?_)
            refine lv_iinc (v := (L4_x3 + 1)) (lv' := [(3, .int (L4_x3 + 1)), (2, .int (L4_x2 + 1)), (5, .int 0), (4, .int 1), (0, .ref b), (1, .int x1)]) hx hb dX3_rankOf_79 hl (k := 5) rfl rfl (by decide) rfl (fun ls hl => ?_)
            refine lv_goto (tgt := 4) hx hb dX3_rankOf_82 (by decide) ?_
            exact ih _ _ _ hf _ _ hM _ (lv_sub hl [4, 5, 1, 0] rfl) hk
          · rw [if_pos hcd] at hf
            refine lv_iload_n hx hb dX3_rankOf_49 rfl (lv_at hl 4 rfl) ?_
            refine lv_iload_n hx hb dX3_rankOf_50 rfl (lv_at hl 2 rfl) ?_
            refine lv_icmp_ge (tgt := 58) hx hb dX3_rankOf_51 (by decide) (fun hcd => ?_) (fun hcd => ?_)
            · rw [if_pos hcd] at hf
              refine lv_iconst (v := 0) hx hb dX3_rankOf_58 (by decide) ?_
              refine lv_istore (lv' := [(5, .int 0), (4, .int 1), (0, .ref b), (1, .int x1), (2, .int L4_x2), (3, .int L4_x3)]) hx hb dX3_rankOf_59 hl (by decide) rfl (fun ls hl => ?_)
              refine lv_iload_n hx hb dX3_rankOf_61 rfl (lv_at hl 4 rfl) ?_
              refine lv_iload hx hb dX3_rankOf_62 (lv_at hl 1 rfl) ?_
              refine lv_if_ne (tgt := 72) hx hb dX3_rankOf_64 (by decide) (fun _ => ?_) (fun c => absurd c (by decide))
              refine lv_iconst (v := 1) hx hb dX3_rankOf_72 (by decide) ?_
              refine lv_goto (tgt := 77) hx hb dX3_rankOf_73 (by decide) ?_
              refine lv_iadd hx hb dX3_rankOf_77 ?_
              refine lv_istore_n (lv' := [(2, .int (L4_x2 + 1)), (5, .int 0), (4, .int 1), (0, .ref b), (1, .int x1), (3, .int L4_x3)]) hx hb dX3_rankOf_78 rfl hl (by decide) rfl (fun ls hl => ?_)
              refine lv_iinc (v := (L4_x3 + 1)) (lv' := [(3, .int (L4_x3 + 1)), (2, .int (L4_x2 + 1)), (5, .int 0), (4, .int 1), (0, .ref b), (1, .int x1)]) hx hb dX3_rankOf_79 hl (k := 5) rfl rfl (by decide) rfl (fun ls hl => ?_)
              refine lv_goto (tgt := 4) hx hb dX3_rankOf_82 (by decide) ?_
              exact ih _ _ _ hf _ _ hM _ (lv_sub hl [4, 5, 1, 0] rfl) hk
            · rw [if_neg hcd] at hf
              refine lv_iconst (v := 1) hx hb dX3_rankOf_54 (by decide) ?_
              refine lv_goto (tgt := 59) hx hb dX3_rankOf_55 (by decide) ?_
              refine lv_istore (lv' := [(5, .int 1), (4, .int 1), (0, .ref b), (1, .int x1), (2, .int L4_x2), (3, .int L4_x3)]) hx hb dX3_rankOf_59 hl (by decide) rfl (fun ls hl => ?_)
              refine lv_iload_n hx hb dX3_rankOf_61 rfl (lv_at hl 4 rfl) ?_
              refine lv_iload hx hb dX3_rankOf_62 (lv_at hl 1 rfl) ?_
              refine lv_if_ne (tgt := 72) hx hb dX3_rankOf_64 (by decide) (fun _ => ?_) (fun c => absurd c (by decide))
              refine lv_iconst (v := 1) hx hb dX3_rankOf_72 (by decide) ?_
              refine lv_goto (tgt := 77) hx hb dX3_rankOf_73 (by decide) ?_
              refine lv_iadd hx hb dX3_rankOf_77 ?_
              refine lv_istore_n (lv' := [(2, .int (L4_x2 + 1)), (5, .int 1), (4, .int 1), (0, .ref b), (1, .int x1), (3, .int L4_x3)]) hx hb dX3_rankOf_78 rfl hl (by decide) rfl (fun ls hl => ?_)
              refine lv_iinc (v := (L4_x3 + 1)) (lv' := [(3, .int (L4_x3 + 1)), (2, .int (L4_x2 + 1)), (5, .int 1), (4, .int 1), (0, .ref b), (1, .int x1)]) hx hb dX3_rankOf_79 hl (k := 5) rfl rfl (by decide) rfl (fun ls hl => ?_)
              refine lv_goto (tgt := 4) hx hb dX3_rankOf_82 (by decide) ?_
              exact ih _ _ _ hf _ _ hM _ (lv_sub hl [4, 5, 1, 0] rfl) hk
  obtain ⟨q4, hq4, hf⟩ := mm_bd hf
  refine L4 K _ _ _ hq4 _ _ hM _ (lv_sub hl [2, 3, 1, 0] rfl) (fun H locs hM ls hl => ?_)
  refine lv_iload_n hx hb dX3_rankOf_85 rfl (lv_at hl 0 rfl) ?_
  cases hf
  exact hret hM dX3_rankOf_86 rfl ⟨rfl, rfl⟩
def f_X3_placeOfRank_L2 (K : Nat) (fares : Nat → Int32) (count : Int32) (x1 : Int32) : Nat → (Int32) → Option (Int32)
  | 0, _ => none
  | n + 1, x2 => if count ≤ x2 then some (-1) else (f_X3_rankOf K fares count x2).bind fun q12 => if q12 = x1 then some x2 else f_X3_placeOfRank_L2 K fares count x1 n (x2 + 1)
def f_X3_placeOfRank (K : Nat) (fares : Nat → Int32) (count : Int32) (x1 : Int32) : Option (Int32) := f_X3_placeOfRank_L2 K fares count x1 K 0
set_option maxHeartbeats 4000000 in
set_option maxRecDepth 100000 in
theorem c_X3_placeOfRank (l : Launch) {G : mm_G} {K : Nat} {w : va_W} {sz : Nat} {b : Nat} {numbers : Nat → Int32} {cells : Nat → Int32} {fares : Nat → Int32} {count : Int32} {nextNumber : Int32} {total : Int32} {removedFares : Int32} {meetings : Int32} {x1 : Int32} {X : Int32} (hf : f_X3_placeOfRank K fares count x1 = some X) (hp_this : At3 G w b numbers cells fares count nextNumber total removedFares meetings) : Met l yX3_placeOfRank (Cond.code yX3_placeOfRank cX3_placeOfRank 3 (some .int) :: gAll) ({ frames := 1, cells := 0, slots := 0, locals := 25 }) (va_Pc [.ref b, .int x1] (mm_Pre G w sz)) (mm_Qi G w sz (fun r w' => r = X ∧ w' = w)) 0 0 (va_A w sz) := by
  refine mm_headI [.ref b, .int x1] (by decide +kernel) rfl (Nat.le_of_ble_eq_true rfl) ?_
  intro p e s m args below meth c A Q hsz hC hM hret ls hl
  have hx := hC.1.1
  have hb := hC.1.2.1
  have hl : lv_has ls 3 [(0, .ref b), (1, .int x1)] := hl
  rw [f_X3_placeOfRank] at hf
  refine lv_iconst (v := 0) hx hb dX3_placeOfRank_0 (by decide) ?_
  refine lv_istore_n (lv' := [(2, .int 0), (0, .ref b), (1, .int x1)]) hx hb dX3_placeOfRank_1 rfl hl (by decide) rfl (fun ls hl => ?_)
  have L2 : ∀ (n : Nat) (L2_x2 : Int32), f_X3_placeOfRank_L2 K fares count x1 n L2_x2 = some X → ∀ (H : Heap) (locs : List Loc), mm_S G A s.heap w H locs → ∀ (ls : Array Slot), lv_has ls 3 [(0, .ref b), (1, .int x1), (2, .int L2_x2)] → W p l e ({ frames := 1, cells := 0, slots := 0, locals := 25 } : Room) s m args below meth c H locs 0 0 Q (F0 m 2 ls []) := by
    intro n
    induction n with
    | zero => intro L2_x2 hf; cases hf
    | succ n ih =>
      intro L2_x2 hf H locs hM ls hl
      rw [f_X3_placeOfRank_L2] at hf
      refine lv_iload_n hx hb dX3_placeOfRank_2 rfl (lv_at hl 2 rfl) ?_
      refine lv_aload_n hx hb dX3_placeOfRank_3 rfl (lv_at hl 0 rfl) ?_
      refine mm_get hC hM (k := 3) hp_this.1 rfl inAX3 (by decide) q1_81 rfl dX3_placeOfRank_4 ?_
      refine lv_icmp_ge (tgt := 27) hx hb dX3_placeOfRank_7 (by decide) (fun hcd => ?_) (fun hcd => ?_)
      · rw [if_pos hcd] at hf
        refine lv_iconst (v := (-1)) hx hb dX3_placeOfRank_27 (by decide) ?_
        cases hf
        exact hret hM dX3_placeOfRank_28 rfl ⟨rfl, rfl⟩
      · rw [if_neg hcd] at hf
        refine lv_aload_n hx hb dX3_placeOfRank_10 rfl (lv_at hl 0 rfl) ?_
        refine lv_iload_n hx hb dX3_placeOfRank_11 rfl (lv_at hl 2 rfl) ?_
        obtain ⟨q12, hq12, hf⟩ := mm_bd hf
        refine mm_Vi (rest := []) hC hM (c_X3_rankOf l hq12 hp_this) q4_197 q1_4 ykX3_rankOf q4_194 q4_196 qp_cdd82ef0 hp_this.1 rfl ⟨rfl, rfl⟩ ⟨Nat.le_of_ble_eq_true rfl, Nat.le_of_ble_eq_true rfl⟩ rfl hl.1 rfl (Nat.le_of_ble_eq_true rfl) dX3_placeOfRank_12 ⟨Nat.le_of_ble_eq_true rfl, Nat.le_of_ble_eq_true rfl⟩ (fun r w12 H locs hM hw => ?_)
        obtain ⟨hr, hw⟩ := hw
        rw [hr]
        rw [hw] at hM
        refine lv_iload_n hx hb dX3_placeOfRank_15 rfl (lv_at hl 1 rfl) ?_
        refine lv_icmp_ne (tgt := 21) hx hb dX3_placeOfRank_16 (by decide) (fun hcd => ?_) (fun hcd => ?_)
        · rw [if_neg hcd] at hf
          refine lv_iinc (v := (L2_x2 + 1)) (lv' := [(2, .int (L2_x2 + 1)), (0, .ref b), (1, .int x1)]) hx hb dX3_placeOfRank_21 hl (k := 2) rfl rfl (by decide) rfl (fun ls hl => ?_)
          refine lv_goto (tgt := 2) hx hb dX3_placeOfRank_24 (by decide) ?_
          exact ih _ hf _ _ hM _ (lv_sub hl [1, 2, 0] rfl)
        · rw [if_pos hcd] at hf
          refine lv_iload_n hx hb dX3_placeOfRank_19 rfl (lv_at hl 2 rfl) ?_
          cases hf
          exact hret hM dX3_placeOfRank_20 rfl ⟨rfl, rfl⟩
  exact L2 K _ hf _ _ hM _ (lv_sub hl [1, 2, 0] rfl)
def f_X3_presentFares_L4 (fares : Nat → Int32) (count : Int32) : Nat → (Int32) → (Int32) → Option (Int32)
  | 0, _, _ => none
  | n + 1, x1, x2 => if count ≤ x2 then some x1 else mm_g (mm_ck x2 4) (f_X3_presentFares_L4 fares count n (x1 + (fares x2.toNatClampNeg)) (x2 + 1))
def f_X3_presentFares (K : Nat) (fares : Nat → Int32) (count : Int32) : Option (Int32) := (f_X3_presentFares_L4 fares count K 0 0).bind fun q4 => some q4
set_option maxHeartbeats 4000000 in
set_option maxRecDepth 100000 in
theorem c_X3_presentFares (l : Launch) {G : mm_G} {K : Nat} {w : va_W} {sz : Nat} {b : Nat} {numbers : Nat → Int32} {cells : Nat → Int32} {fares : Nat → Int32} {count : Int32} {nextNumber : Int32} {total : Int32} {removedFares : Int32} {meetings : Int32} {X : Int32} (hf : f_X3_presentFares K fares count = some X) (hp_this : At3 G w b numbers cells fares count nextNumber total removedFares meetings) : Met l yX3_presentFares (Cond.code yX3_presentFares cX3_presentFares 3 (some .int) :: gAll) ({ frames := 0, cells := 0, slots := 0, locals := 0 }) (va_Pc [.ref b] (mm_Pre G w sz)) (mm_Qi G w sz (fun r w' => r = X ∧ w' = w)) 0 0 (va_A w sz) := by
  refine mm_headI [.ref b] (by decide +kernel) rfl (Nat.le_of_ble_eq_true rfl) ?_
  intro p e s m args below meth c A Q hsz hC hM hret ls hl
  have hx := hC.1.1
  have hb := hC.1.2.1
  have hl : lv_has ls 3 [(0, .ref b)] := hl
  rw [f_X3_presentFares] at hf
  refine lv_iconst (v := 0) hx hb dX3_presentFares_0 (by decide) ?_
  refine lv_istore_n (lv' := [(1, .int 0), (0, .ref b)]) hx hb dX3_presentFares_1 rfl hl (by decide) rfl (fun ls hl => ?_)
  refine lv_iconst (v := 0) hx hb dX3_presentFares_2 (by decide) ?_
  refine lv_istore_n (lv' := [(2, .int 0), (1, .int 0), (0, .ref b)]) hx hb dX3_presentFares_3 rfl hl (by decide) rfl (fun ls hl => ?_)
  have L4 : ∀ (n : Nat) (L4_x1 : Int32) (L4_x2 : Int32) (X : Int32), f_X3_presentFares_L4 fares count n L4_x1 L4_x2 = some X → ∀ (H : Heap) (locs : List Loc), mm_S G A s.heap w H locs → ∀ (ls : Array Slot), lv_has ls 3 [(0, .ref b), (1, .int L4_x1), (2, .int L4_x2)] → (∀ (H : Heap) (locs : List Loc), mm_S G A s.heap w H locs → ∀ (ls : Array Slot), lv_has ls 3 [(1, .int X)] → W p l e ({ frames := 0, cells := 0, slots := 0, locals := 0 } : Room) s m args below meth c H locs 0 0 Q (F0 m 27 ls [])) → W p l e ({ frames := 0, cells := 0, slots := 0, locals := 0 } : Room) s m args below meth c H locs 0 0 Q (F0 m 4 ls []) := by
    intro n
    induction n with
    | zero => intro L4_x1 L4_x2 X hf; cases hf
    | succ n ih =>
      intro L4_x1 L4_x2 X hf H locs hM ls hl hk
      rw [f_X3_presentFares_L4] at hf
      refine lv_iload_n hx hb dX3_presentFares_4 rfl (lv_at hl 2 rfl) ?_
      refine lv_aload_n hx hb dX3_presentFares_5 rfl (lv_at hl 0 rfl) ?_
      refine mm_get hC hM (k := 3) hp_this.1 rfl inAX3 (by decide) q1_81 rfl dX3_presentFares_6 ?_
      refine lv_icmp_ge (tgt := 27) hx hb dX3_presentFares_9 (by decide) (fun hcd => ?_) (fun hcd => ?_)
      · rw [if_pos hcd] at hf
        cases hf
        exact hk _ _ hM _ (lv_sub hl [1] rfl)
      · rw [if_neg hcd] at hf
        refine lv_iload_n hx hb dX3_presentFares_12 rfl (lv_at hl 1 rfl) ?_
        refine lv_aload_n hx hb dX3_presentFares_13 rfl (lv_at hl 0 rfl) ?_
        refine mm_get hC hM (k := 2) hp_this.1 rfl inAX3 (by decide) q1_79 rfl dX3_presentFares_14 ?_
        refine lv_iload_n hx hb dX3_presentFares_17 rfl (lv_at hl 2 rfl) ?_
        obtain ⟨hg18, hf⟩ := mm_gd hf
        refine mm_iald hC hM (hp_this.2.2.2) hg18 dX3_presentFares_18 ?_
        refine lv_iadd hx hb dX3_presentFares_19 ?_
        refine lv_istore_n (lv' := [(1, .int (L4_x1 + (fares L4_x2.toNatClampNeg))), (0, .ref b), (2, .int L4_x2)]) hx hb dX3_presentFares_20 rfl hl (by decide) rfl (fun ls hl => ?_)
        refine lv_iinc (v := (L4_x2 + 1)) (lv' := [(2, .int (L4_x2 + 1)), (1, .int (L4_x1 + (fares L4_x2.toNatClampNeg))), (0, .ref b)]) hx hb dX3_presentFares_21 hl (k := 2) rfl rfl (by decide) rfl (fun ls hl => ?_)
        refine lv_goto (tgt := 4) hx hb dX3_presentFares_24 (by decide) ?_
        exact ih _ _ _ hf _ _ hM _ (lv_sub hl [2, 1, 0] rfl) hk
  obtain ⟨q4, hq4, hf⟩ := mm_bd hf
  refine L4 K _ _ _ hq4 _ _ hM _ (lv_sub hl [2, 1, 0] rfl) (fun H locs hM ls hl => ?_)
  refine lv_iload_n hx hb dX3_presentFares_27 rfl (lv_at hl 0 rfl) ?_
  cases hf
  exact hret hM dX3_presentFares_28 rfl ⟨rfl, rfl⟩
def f_X3_launch (numbers : Nat → Int32) (cells : Nat → Int32) (fares : Nat → Int32) (count : Int32) (nextNumber : Int32) (x1 : Int32) : Option (Int32 × (Nat → Int32) × (Nat → Int32) × (Nat → Int32) × Int32 × Int32) := if 4 ≤ count then some (nextNumber, numbers, cells, fares, count, nextNumber) else mm_g (mm_ck count 4) (mm_g (mm_ck count 4) (mm_g (mm_ck count 4) (some (nextNumber, (upd numbers count.toNatClampNeg nextNumber), (upd cells count.toNatClampNeg x1), (upd fares count.toNatClampNeg 0), (count + 1), (nextNumber + 1)))))
set_option maxHeartbeats 4000000 in
set_option maxRecDepth 100000 in
theorem c_X3_launch (l : Launch) {G : mm_G} {w : va_W} {sz : Nat} {b : Nat} {numbers : Nat → Int32} {cells : Nat → Int32} {fares : Nat → Int32} {count : Int32} {nextNumber : Int32} {total : Int32} {removedFares : Int32} {meetings : Int32} {x1 : Int32} {X : Int32 × (Nat → Int32) × (Nat → Int32) × (Nat → Int32) × Int32 × Int32} (hf : f_X3_launch numbers cells fares count nextNumber x1 = some X) (hp_this : At3 G w b numbers cells fares count nextNumber total removedFares meetings) : Met l yX3_launch (Cond.code yX3_launch cX3_launch 3 (some .int) :: gAll) ({ frames := 0, cells := 0, slots := 0, locals := 0 }) (va_Pc [.ref b, .int x1] (mm_Pre G w sz)) (mm_Qi G w sz (fun r w' => r = X.1 ∧ At3 G w' b X.2.1 X.2.2.1 X.2.2.2.1 X.2.2.2.2.1 X.2.2.2.2.2 total removedFares meetings ∧ mm_fr w w' b (b + 4))) 0 0 (va_A w sz) := by
  refine mm_headI [.ref b, .int x1] (by decide +kernel) rfl (Nat.le_of_ble_eq_true rfl) ?_
  intro p e s m args below meth c A Q hsz hC hM hret ls hl
  have hx := hC.1.1
  have hb := hC.1.2.1
  have hl : lv_has ls 3 [(0, .ref b), (1, .int x1)] := hl
  have hF : mm_fr w w b (b + 4) := mm_fr.rf
  rw [f_X3_launch] at hf
  refine lv_aload_n hx hb dX3_launch_0 rfl (lv_at hl 0 rfl) ?_
  refine mm_get hC hM (k := 4) hp_this.1 rfl inAX3 (by decide) q1_84 rfl dX3_launch_1 ?_
  refine lv_istore_n (lv' := [(2, .int nextNumber), (0, .ref b), (1, .int x1)]) hx hb dX3_launch_4 rfl hl (by decide) rfl (fun ls hl => ?_)
  refine lv_aload_n hx hb dX3_launch_5 rfl (lv_at hl 1 rfl) ?_
  refine mm_get hC hM (k := 3) hp_this.1 rfl inAX3 (by decide) q1_81 rfl dX3_launch_6 ?_
  refine lv_iconst (v := 4) hx hb dX3_launch_9 (by decide) ?_
  refine lv_icmp_ge (tgt := 63) hx hb dX3_launch_10 (by decide) (fun hcd => ?_) (fun hcd => ?_)
  · rw [if_pos hcd] at hf
    refine lv_iload_n hx hb dX3_launch_63 rfl (lv_at hl 0 rfl) ?_
    cases hf
    exact hret hM dX3_launch_64 rfl ⟨rfl, hp_this, hF⟩
  · rw [if_neg hcd] at hf
    refine lv_aload_n hx hb dX3_launch_13 rfl (lv_at hl 1 rfl) ?_
    refine mm_get hC hM (k := 0) hp_this.1 rfl inAX3 (by decide) q1_73 rfl dX3_launch_14 ?_
    refine lv_aload_n hx hb dX3_launch_17 rfl (lv_at hl 1 rfl) ?_
    refine mm_get hC hM (k := 3) hp_this.1 rfl inAX3 (by decide) q1_81 rfl dX3_launch_18 ?_
    refine lv_iload_n hx hb dX3_launch_21 rfl (lv_at hl 0 rfl) ?_
    obtain ⟨hg22, hf⟩ := mm_gd hf
    refine mm_iast hC hM (hp_this.2.1) hg22 dX3_launch_22 (fun w22 H locs hM hm => ?_)
    have hp_this : At3 G w22 b (upd numbers count.toNatClampNeg nextNumber) cells fares count nextNumber total removedFares meetings := ⟨hm.keep (hp_this.1) (by omega), hm.1, hm.keep (hp_this.2.2.1) (by omega), hm.keep (hp_this.2.2.2) (by omega)⟩
    have hF := hF.tr (hm.fr (by omega) (by omega))
    refine lv_aload_n hx hb dX3_launch_23 rfl (lv_at hl 1 rfl) ?_
    refine mm_get hC hM (k := 1) hp_this.1 rfl inAX3 (by decide) q1_76 rfl dX3_launch_24 ?_
    refine lv_aload_n hx hb dX3_launch_27 rfl (lv_at hl 1 rfl) ?_
    refine mm_get hC hM (k := 3) hp_this.1 rfl inAX3 (by decide) q1_81 rfl dX3_launch_28 ?_
    refine lv_iload_n hx hb dX3_launch_31 rfl (lv_at hl 2 rfl) ?_
    obtain ⟨hg32, hf⟩ := mm_gd hf
    refine mm_iast hC hM (hp_this.2.2.1) hg32 dX3_launch_32 (fun w32 H locs hM hm => ?_)
    have hp_this : At3 G w32 b (upd numbers count.toNatClampNeg nextNumber) (upd cells count.toNatClampNeg x1) fares count nextNumber total removedFares meetings := ⟨hm.keep (hp_this.1) (by omega), hm.keep (hp_this.2.1) (by omega), hm.1, hm.keep (hp_this.2.2.2) (by omega)⟩
    have hF := hF.tr (hm.fr (by omega) (by omega))
    refine lv_aload_n hx hb dX3_launch_33 rfl (lv_at hl 1 rfl) ?_
    refine mm_get hC hM (k := 2) hp_this.1 rfl inAX3 (by decide) q1_79 rfl dX3_launch_34 ?_
    refine lv_aload_n hx hb dX3_launch_37 rfl (lv_at hl 1 rfl) ?_
    refine mm_get hC hM (k := 3) hp_this.1 rfl inAX3 (by decide) q1_81 rfl dX3_launch_38 ?_
    refine lv_iconst (v := 0) hx hb dX3_launch_41 (by decide) ?_
    obtain ⟨hg42, hf⟩ := mm_gd hf
    refine mm_iast hC hM (hp_this.2.2.2) hg42 dX3_launch_42 (fun w42 H locs hM hm => ?_)
    have hp_this : At3 G w42 b (upd numbers count.toNatClampNeg nextNumber) (upd cells count.toNatClampNeg x1) (upd fares count.toNatClampNeg 0) count nextNumber total removedFares meetings := ⟨hm.keep (hp_this.1) (by omega), hm.keep (hp_this.2.1) (by omega), hm.keep (hp_this.2.2.1) (by omega), hm.1⟩
    have hF := hF.tr (hm.fr (by omega) (by omega))
    refine lv_aload_n hx hb dX3_launch_43 rfl (lv_at hl 1 rfl) ?_
    refine lv_dup hx hb dX3_launch_44 rfl ?_
    refine mm_get hC hM (k := 3) hp_this.1 rfl inAX3 (by decide) q1_81 rfl dX3_launch_45 ?_
    refine lv_iconst (v := 1) hx hb dX3_launch_48 (by decide) ?_
    refine lv_iadd hx hb dX3_launch_49 ?_
    refine mm_put hC hM (k := 3) tyX3 hp_this.1 rfl inAX3 tyX3_ok nmX3 (by decide) q1_81 rfl rfl rfl rfl (Nat.le_of_ble_eq_true rfl) dX3_launch_50 (fun w50 H locs hM hm => ?_)
    have hp_this : At3 G w50 b (upd numbers count.toNatClampNeg nextNumber) (upd cells count.toNatClampNeg x1) (upd fares count.toNatClampNeg 0) (count + 1) nextNumber total removedFares meetings := ⟨hm.1, hm.keep (hp_this.2.1) (by omega), hm.keep (hp_this.2.2.1) (by omega), hm.keep (hp_this.2.2.2) (by omega)⟩
    have hF := hF.tr (hm.fr (by omega) (by omega))
    refine lv_aload_n hx hb dX3_launch_53 rfl (lv_at hl 1 rfl) ?_
    refine lv_dup hx hb dX3_launch_54 rfl ?_
    refine mm_get hC hM (k := 4) hp_this.1 rfl inAX3 (by decide) q1_84 rfl dX3_launch_55 ?_
    refine lv_iconst (v := 1) hx hb dX3_launch_58 (by decide) ?_
    refine lv_iadd hx hb dX3_launch_59 ?_
    refine mm_put hC hM (k := 4) tyX3 hp_this.1 rfl inAX3 tyX3_ok nmX3 (by decide) q1_84 rfl rfl rfl rfl (Nat.le_of_ble_eq_true rfl) dX3_launch_60 (fun w60 H locs hM hm => ?_)
    have hp_this : At3 G w60 b (upd numbers count.toNatClampNeg nextNumber) (upd cells count.toNatClampNeg x1) (upd fares count.toNatClampNeg 0) (count + 1) (nextNumber + 1) total removedFares meetings := ⟨hm.1, hm.keep (hp_this.2.1) (by omega), hm.keep (hp_this.2.2.1) (by omega), hm.keep (hp_this.2.2.2) (by omega)⟩
    have hF := hF.tr (hm.fr (by omega) (by omega))
    refine lv_iload_n hx hb dX3_launch_63 rfl (lv_at hl 0 rfl) ?_
    cases hf
    exact hret hM dX3_launch_64 rfl ⟨rfl, hp_this, hF⟩
def f_X3_dismiss_L36 (count : Int32) : Nat → (Int32) → (Nat → Int32) → (Nat → Int32) → (Nat → Int32) → Option ((Nat → Int32) × (Nat → Int32) × (Nat → Int32))
  | 0, _, _, _, _ => none
  | n + 1, x4, numbers, cells, fares => if count ≤ x4 then some (numbers, cells, fares) else mm_g (mm_ck x4 4) (mm_g (mm_ck (x4 - 1) 4) (mm_g (mm_ck x4 4) (mm_g (mm_ck (x4 - 1) 4) (mm_g (mm_ck x4 4) (mm_g (mm_ck (x4 - 1) 4) (f_X3_dismiss_L36 count n (x4 + 1) (upd numbers ((x4 - 1).toNatClampNeg) (numbers x4.toNatClampNeg)) (upd cells ((x4 - 1).toNatClampNeg) (cells x4.toNatClampNeg)) (upd fares ((x4 - 1).toNatClampNeg) (fares x4.toNatClampNeg))))))))
def f_X3_dismiss (K : Nat) (numbers : Nat → Int32) (cells : Nat → Int32) (fares : Nat → Int32) (count : Int32) (removedFares : Int32) (x1 : Int32) : Option (Int32 × (Nat → Int32) × (Nat → Int32) × (Nat → Int32) × Int32 × Int32) := (f_X3_placeOf K numbers count x1).bind fun q2 => if q2 = (-1) then some ((-2), numbers, cells, fares, count, removedFares) else mm_g (mm_ck q2 4) ((f_X3_dismiss_L36 count K (q2 + 1) numbers cells fares).bind fun q36 => some ((fares q2.toNatClampNeg), q36.1, q36.2.1, q36.2.2, (count - 1), (removedFares + (fares q2.toNatClampNeg))))
set_option maxHeartbeats 4000000 in
set_option maxRecDepth 100000 in
theorem c_X3_dismiss (l : Launch) {G : mm_G} {K : Nat} {w : va_W} {sz : Nat} {b : Nat} {numbers : Nat → Int32} {cells : Nat → Int32} {fares : Nat → Int32} {count : Int32} {nextNumber : Int32} {total : Int32} {removedFares : Int32} {meetings : Int32} {x1 : Int32} {X : Int32 × (Nat → Int32) × (Nat → Int32) × (Nat → Int32) × Int32 × Int32} (hf : f_X3_dismiss K numbers cells fares count removedFares x1 = some X) (hp_this : At3 G w b numbers cells fares count nextNumber total removedFares meetings) : Met l yX3_dismiss (Cond.code yX3_dismiss cX3_dismiss 5 (some .int) :: gAll) ({ frames := 1, cells := 0, slots := 0, locals := 22 }) (va_Pc [.ref b, .int x1] (mm_Pre G w sz)) (mm_Qi G w sz (fun r w' => r = X.1 ∧ At3 G w' b X.2.1 X.2.2.1 X.2.2.2.1 X.2.2.2.2.1 nextNumber total X.2.2.2.2.2 meetings ∧ mm_fr w w' b (b + 4))) 0 0 (va_A w sz) := by
  refine mm_headI [.ref b, .int x1] (by decide +kernel) rfl (Nat.le_of_ble_eq_true rfl) ?_
  intro p e s m args below meth c A Q hsz hC hM hret ls hl
  have hx := hC.1.1
  have hb := hC.1.2.1
  have hl : lv_has ls 5 [(0, .ref b), (1, .int x1)] := hl
  have hF : mm_fr w w b (b + 4) := mm_fr.rf
  rw [f_X3_dismiss] at hf
  refine lv_aload_n hx hb dX3_dismiss_0 rfl (lv_at hl 0 rfl) ?_
  refine lv_iload_n hx hb dX3_dismiss_1 rfl (lv_at hl 1 rfl) ?_
  obtain ⟨q2, hq2, hf⟩ := mm_bd hf
  refine mm_Vi (rest := []) hC hM (c_X3_placeOf l hq2 hp_this) q4_141 q1_4 ykX3_placeOf q4_138 q4_139 q4_140 hp_this.1 rfl ⟨rfl, rfl⟩ ⟨Nat.le_of_ble_eq_true rfl, Nat.le_of_ble_eq_true rfl⟩ rfl hl.1 rfl (Nat.le_of_ble_eq_true rfl) dX3_dismiss_2 ⟨Nat.le_of_ble_eq_true rfl, Nat.le_of_ble_eq_true rfl⟩ (fun r w2 H locs hM hw => ?_)
  obtain ⟨hr, hw⟩ := hw
  rw [hr]
  rw [hw] at hM
  refine lv_istore_n (lv' := [(2, .int q2), (0, .ref b), (1, .int x1)]) hx hb dX3_dismiss_5 rfl hl (by decide) rfl (fun ls hl => ?_)
  refine lv_iload_n hx hb dX3_dismiss_6 rfl (lv_at hl 0 rfl) ?_
  refine lv_iconst (v := (-1)) hx hb dX3_dismiss_7 (by decide) ?_
  refine lv_icmp_ne (tgt := 14) hx hb dX3_dismiss_8 (by decide) (fun hcd => ?_) (fun hcd => ?_)
  · rw [if_neg hcd] at hf
    refine lv_aload_n hx hb dX3_dismiss_14 rfl (lv_at hl 1 rfl) ?_
    refine mm_get hC hM (k := 2) hp_this.1 rfl inAX3 (by decide) q1_79 rfl dX3_dismiss_15 ?_
    refine lv_iload_n hx hb dX3_dismiss_18 rfl (lv_at hl 0 rfl) ?_
    obtain ⟨hg19, hf⟩ := mm_gd hf
    refine mm_iald hC hM (hp_this.2.2.2) hg19 dX3_dismiss_19 ?_
    refine lv_istore_n (lv' := [(3, .int (fares q2.toNatClampNeg)), (2, .int q2), (0, .ref b), (1, .int x1)]) hx hb dX3_dismiss_20 rfl hl (by decide) rfl (fun ls hl => ?_)
    refine lv_aload_n hx hb dX3_dismiss_21 rfl (lv_at hl 2 rfl) ?_
    refine lv_dup hx hb dX3_dismiss_22 rfl ?_
    refine mm_get hC hM (k := 6) hp_this.1 rfl inAX3 (by decide) q1_87 rfl dX3_dismiss_23 ?_
    refine lv_iload_n hx hb dX3_dismiss_26 rfl (lv_at hl 0 rfl) ?_
    refine lv_iadd hx hb dX3_dismiss_27 ?_
    refine mm_put hC hM (k := 6) tyX3 hp_this.1 rfl inAX3 tyX3_ok nmX3 (by decide) q1_87 rfl rfl rfl rfl (Nat.le_of_ble_eq_true rfl) dX3_dismiss_28 (fun w28 H locs hM hm => ?_)
    have hp_this : At3 G w28 b numbers cells fares count nextNumber total (removedFares + (fares q2.toNatClampNeg)) meetings := ⟨hm.1, hm.keep (hp_this.2.1) (by omega), hm.keep (hp_this.2.2.1) (by omega), hm.keep (hp_this.2.2.2) (by omega)⟩
    have hF := hF.tr (hm.fr (by omega) (by omega))
    refine lv_iload_n hx hb dX3_dismiss_31 rfl (lv_at hl 1 rfl) ?_
    refine lv_iconst (v := 1) hx hb dX3_dismiss_32 (by decide) ?_
    refine lv_iadd hx hb dX3_dismiss_33 ?_
    refine lv_istore (lv' := [(4, .int (q2 + 1)), (3, .int (fares q2.toNatClampNeg)), (2, .int q2), (0, .ref b), (1, .int x1)]) hx hb dX3_dismiss_34 hl (by decide) rfl (fun ls hl => ?_)
    have L36 : ∀ (n : Nat) (L36_x4 : Int32) (L36_numbers : Nat → Int32) (L36_cells : Nat → Int32) (L36_fares : Nat → Int32) (X : (Nat → Int32) × (Nat → Int32) × (Nat → Int32)), f_X3_dismiss_L36 count n L36_x4 L36_numbers L36_cells L36_fares = some X → ∀ (L36_w : va_W) (H : Heap) (locs : List Loc), mm_S G A s.heap L36_w H locs → At3 G L36_w b L36_numbers L36_cells L36_fares count nextNumber total (removedFares + (fares q2.toNatClampNeg)) meetings → mm_fr w L36_w b (b + 4) → ∀ (ls : Array Slot), lv_has ls 5 [(0, .ref b), (3, .int (fares q2.toNatClampNeg)), (4, .int L36_x4)] → (∀ (w9 : va_W) (H : Heap) (locs : List Loc), mm_S G A s.heap w9 H locs → At3 G w9 b X.1 X.2.1 X.2.2 count nextNumber total (removedFares + (fares q2.toNatClampNeg)) meetings → mm_fr w w9 b (b + 4) → ∀ (ls : Array Slot), lv_has ls 5 [(0, .ref b), (3, .int (fares q2.toNatClampNeg))] → W p l e ({ frames := 1, cells := 0, slots := 0, locals := 22 } : Room) s m args below meth c H locs 0 0 Q (F0 m 99 ls [])) → W p l e ({ frames := 1, cells := 0, slots := 0, locals := 22 } : Room) s m args below meth c H locs 0 0 Q (F0 m 36 ls []) := by
      intro n
      induction n with
      | zero => intro L36_x4 L36_numbers L36_cells L36_fares X hf; cases hf
      | succ n ih =>
        intro L36_x4 L36_numbers L36_cells L36_fares X hf L36_w H locs hM hp_this hF ls hl hk
        rw [f_X3_dismiss_L36] at hf
        refine lv_iload hx hb dX3_dismiss_36 (lv_at hl 2 rfl) ?_
        refine lv_aload_n hx hb dX3_dismiss_38 rfl (lv_at hl 0 rfl) ?_
        refine mm_get hC hM (k := 3) hp_this.1 rfl inAX3 (by decide) q1_81 rfl dX3_dismiss_39 ?_
        refine lv_icmp_ge (tgt := 99) hx hb dX3_dismiss_42 (by decide) (fun hcd => ?_) (fun hcd => ?_)
        · rw [if_pos hcd] at hf
          cases hf
          exact hk _ _ _ hM hp_this hF _ (lv_sub hl [0, 1] rfl)
        · rw [if_neg hcd] at hf
          refine lv_aload_n hx hb dX3_dismiss_45 rfl (lv_at hl 0 rfl) ?_
          refine mm_get hC hM (k := 0) hp_this.1 rfl inAX3 (by decide) q1_73 rfl dX3_dismiss_46 ?_
          refine lv_iload hx hb dX3_dismiss_49 (lv_at hl 2 rfl) ?_
          refine lv_iconst (v := 1) hx hb dX3_dismiss_51 (by decide) ?_
          refine lv_isub hx hb dX3_dismiss_52 ?_
          refine lv_aload_n hx hb dX3_dismiss_53 rfl (lv_at hl 0 rfl) ?_
          refine mm_get hC hM (k := 0) hp_this.1 rfl inAX3 (by decide) q1_73 rfl dX3_dismiss_54 ?_
          refine lv_iload hx hb dX3_dismiss_57 (lv_at hl 2 rfl) ?_
          obtain ⟨hg59, hf⟩ := mm_gd hf
          refine mm_iald hC hM (hp_this.2.1) hg59 dX3_dismiss_59 ?_
          obtain ⟨hg60, hf⟩ := mm_gd hf
          refine mm_iast hC hM (hp_this.2.1) hg60 dX3_dismiss_60 (fun w60 H locs hM hm => ?_)
          have hp_this : At3 G w60 b (upd L36_numbers ((L36_x4 - 1).toNatClampNeg) (L36_numbers L36_x4.toNatClampNeg)) L36_cells L36_fares count nextNumber total (removedFares + (fares q2.toNatClampNeg)) meetings := ⟨hm.keep (hp_this.1) (by omega), hm.1, hm.keep (hp_this.2.2.1) (by omega), hm.keep (hp_this.2.2.2) (by omega)⟩
          have hF := hF.tr (hm.fr (by omega) (by omega))
          refine lv_aload_n hx hb dX3_dismiss_61 rfl (lv_at hl 0 rfl) ?_
          refine mm_get hC hM (k := 1) hp_this.1 rfl inAX3 (by decide) q1_76 rfl dX3_dismiss_62 ?_
          refine lv_iload hx hb dX3_dismiss_65 (lv_at hl 2 rfl) ?_
          refine lv_iconst (v := 1) hx hb dX3_dismiss_67 (by decide) ?_
          refine lv_isub hx hb dX3_dismiss_68 ?_
          refine lv_aload_n hx hb dX3_dismiss_69 rfl (lv_at hl 0 rfl) ?_
          refine mm_get hC hM (k := 1) hp_this.1 rfl inAX3 (by decide) q1_76 rfl dX3_dismiss_70 ?_
          refine lv_iload hx hb dX3_dismiss_73 (lv_at hl 2 rfl) ?_
          obtain ⟨hg75, hf⟩ := mm_gd hf
          refine mm_iald hC hM (hp_this.2.2.1) hg75 dX3_dismiss_75 ?_
          obtain ⟨hg76, hf⟩ := mm_gd hf
          refine mm_iast hC hM (hp_this.2.2.1) hg76 dX3_dismiss_76 (fun w76 H locs hM hm => ?_)
          have hp_this : At3 G w76 b (upd L36_numbers ((L36_x4 - 1).toNatClampNeg) (L36_numbers L36_x4.toNatClampNeg)) (upd L36_cells ((L36_x4 - 1).toNatClampNeg) (L36_cells L36_x4.toNatClampNeg)) L36_fares count nextNumber total (removedFares + (fares q2.toNatClampNeg)) meetings := ⟨hm.keep (hp_this.1) (by omega), hm.keep (hp_this.2.1) (by omega), hm.1, hm.keep (hp_this.2.2.2) (by omega)⟩
          have hF := hF.tr (hm.fr (by omega) (by omega))
          refine lv_aload_n hx hb dX3_dismiss_77 rfl (lv_at hl 0 rfl) ?_
          refine mm_get hC hM (k := 2) hp_this.1 rfl inAX3 (by decide) q1_79 rfl dX3_dismiss_78 ?_
          refine lv_iload hx hb dX3_dismiss_81 (lv_at hl 2 rfl) ?_
          refine lv_iconst (v := 1) hx hb dX3_dismiss_83 (by decide) ?_
          refine lv_isub hx hb dX3_dismiss_84 ?_
          refine lv_aload_n hx hb dX3_dismiss_85 rfl (lv_at hl 0 rfl) ?_
          refine mm_get hC hM (k := 2) hp_this.1 rfl inAX3 (by decide) q1_79 rfl dX3_dismiss_86 ?_
          refine lv_iload hx hb dX3_dismiss_89 (lv_at hl 2 rfl) ?_
          obtain ⟨hg91, hf⟩ := mm_gd hf
          refine mm_iald hC hM (hp_this.2.2.2) hg91 dX3_dismiss_91 ?_
          obtain ⟨hg92, hf⟩ := mm_gd hf
          refine mm_iast hC hM (hp_this.2.2.2) hg92 dX3_dismiss_92 (fun w92 H locs hM hm => ?_)
          have hp_this : At3 G w92 b (upd L36_numbers ((L36_x4 - 1).toNatClampNeg) (L36_numbers L36_x4.toNatClampNeg)) (upd L36_cells ((L36_x4 - 1).toNatClampNeg) (L36_cells L36_x4.toNatClampNeg)) (upd L36_fares ((L36_x4 - 1).toNatClampNeg) (L36_fares L36_x4.toNatClampNeg)) count nextNumber total (removedFares + (fares q2.toNatClampNeg)) meetings := ⟨hm.keep (hp_this.1) (by omega), hm.keep (hp_this.2.1) (by omega), hm.keep (hp_this.2.2.1) (by omega), hm.1⟩
          have hF := hF.tr (hm.fr (by omega) (by omega))
          refine lv_iinc (v := (L36_x4 + 1)) (lv' := [(4, .int (L36_x4 + 1)), (0, .ref b), (3, .int (fares q2.toNatClampNeg))]) hx hb dX3_dismiss_93 hl (k := 2) rfl rfl (by decide) rfl (fun ls hl => ?_)
          refine lv_goto (tgt := 36) hx hb dX3_dismiss_96 (by decide) ?_
          exact ih _ _ _ _ _ hf _ _ _ hM hp_this hF _ (lv_sub hl [1, 2, 0] rfl) hk
    obtain ⟨q36, hq36, hf⟩ := mm_bd hf
    refine L36 K _ _ _ _ _ hq36 _ _ _ hM hp_this hF _ (lv_sub hl [3, 1, 0] rfl) (fun w36 H locs hM hp_this hF ls hl => ?_)
    refine lv_aload_n hx hb dX3_dismiss_99 rfl (lv_at hl 0 rfl) ?_
    refine lv_dup hx hb dX3_dismiss_100 rfl ?_
    refine mm_get hC hM (k := 3) hp_this.1 rfl inAX3 (by decide) q1_81 rfl dX3_dismiss_101 ?_
    refine lv_iconst (v := 1) hx hb dX3_dismiss_104 (by decide) ?_
    refine lv_isub hx hb dX3_dismiss_105 ?_
    refine mm_put hC hM (k := 3) tyX3 hp_this.1 rfl inAX3 tyX3_ok nmX3 (by decide) q1_81 rfl rfl rfl rfl (Nat.le_of_ble_eq_true rfl) dX3_dismiss_106 (fun w106 H locs hM hm => ?_)
    have hp_this : At3 G w106 b q36.1 q36.2.1 q36.2.2 (count - 1) nextNumber total (removedFares + (fares q2.toNatClampNeg)) meetings := ⟨hm.1, hm.keep (hp_this.2.1) (by omega), hm.keep (hp_this.2.2.1) (by omega), hm.keep (hp_this.2.2.2) (by omega)⟩
    have hF := hF.tr (hm.fr (by omega) (by omega))
    refine lv_iload_n hx hb dX3_dismiss_109 rfl (lv_at hl 1 rfl) ?_
    cases hf
    exact hret hM dX3_dismiss_110 rfl ⟨rfl, hp_this, hF⟩
  · rw [if_pos hcd] at hf
    refine lv_bipush (v := (-2)) hx hb dX3_dismiss_11 (by decide) ?_
    cases hf
    exact hret hM dX3_dismiss_13 rfl ⟨rfl, hp_this, hF⟩
def f_X3_step (cells : Nat → Int32) (meetings : Int32) (x1 : Int32) (x2 : Int32) : Option ((Nat → Int32) × Int32) := mm_g (mm_ck x1 4) ((f_X12_neighbour (cells x1.toNatClampNeg) x2).bind fun q7 => if q7 = (-1) then some (cells, meetings) else (f_X12_column q7).bind fun q18 => if q18 = 4 then mm_g (mm_ck x1 4) ((f_X12_column (cells x1.toNatClampNeg)).bind fun q31 => if q31 = 4 then mm_g (mm_ck x1 4) (some ((upd cells x1.toNatClampNeg q7), meetings)) else mm_g (mm_ck x1 4) (some ((upd cells x1.toNatClampNeg q7), (meetings + 1)))) else mm_g (mm_ck x1 4) (some ((upd cells x1.toNatClampNeg q7), meetings)))
set_option maxHeartbeats 4000000 in
set_option maxRecDepth 100000 in
theorem c_X3_step (l : Launch) {G : mm_G} {w : va_W} {sz : Nat} {b : Nat} {numbers : Nat → Int32} {cells : Nat → Int32} {fares : Nat → Int32} {count : Int32} {nextNumber : Int32} {total : Int32} {removedFares : Int32} {meetings : Int32} {x1 : Int32} {x2 : Int32} {X : (Nat → Int32) × Int32} (hf : f_X3_step cells meetings x1 x2 = some X) (hp_this : At3 G w b numbers cells fares count nextNumber total removedFares meetings) : Met l yX3_step (Cond.code yX3_step cX3_step 4 none :: gAll) ({ frames := 2, cells := 0, slots := 0, locals := 45 }) (va_Pc [.ref b, .int x1, .int x2] (mm_Pre G w sz)) (mm_Qv G w sz (fun w' => At3 G w' b numbers X.1 fares count nextNumber total removedFares X.2 ∧ mm_fr w w' b (b + 4))) 0 0 (va_A w sz) := by
  refine mm_headV [.ref b, .int x1, .int x2] (by decide +kernel) rfl (Nat.le_of_ble_eq_true rfl) ?_
  intro p e s m args below meth c A Q hsz hC hM hret hnm ls hl
  have hx := hC.1.1
  have hb := hC.1.2.1
  have hl : lv_has ls 4 [(0, .ref b), (1, .int x1), (2, .int x2)] := hl
  have hF : mm_fr w w b (b + 4) := mm_fr.rf
  rw [f_X3_step] at hf
  refine lv_aload_n hx hb dX3_step_0 rfl (lv_at hl 0 rfl) ?_
  refine mm_get hC hM (k := 1) hp_this.1 rfl inAX3 (by decide) q1_76 rfl dX3_step_1 ?_
  refine lv_iload_n hx hb dX3_step_4 rfl (lv_at hl 1 rfl) ?_
  obtain ⟨hg5, hf⟩ := mm_gd hf
  refine mm_iald hC hM (hp_this.2.2.1) hg5 dX3_step_5 ?_
  refine lv_iload_n hx hb dX3_step_6 rfl (lv_at hl 2 rfl) ?_
  obtain ⟨q7, hq7, hf⟩ := mm_bd hf
  refine mm_SNi (rest := []) hC hM (c_X12_neighbour l hq7) q2_159 q1_1 ykX12_neighbour q5_92 q2_158 ⟨rfl, rfl⟩ ⟨Nat.le_of_ble_eq_true rfl, Nat.le_of_ble_eq_true rfl⟩ rfl hl.1 rfl (Nat.le_of_ble_eq_true rfl) dX3_step_7 ⟨Nat.le_of_ble_eq_true rfl, Nat.le_of_ble_eq_true rfl⟩ (fun r w7 H locs hM hw => ?_)
  obtain ⟨hr, hw⟩ := hw
  rw [hr]
  rw [hw] at hM
  refine lv_istore_n (lv' := [(3, .int q7), (0, .ref b), (1, .int x1), (2, .int x2)]) hx hb dX3_step_10 rfl hl (by decide) rfl (fun ls hl => ?_)
  refine lv_iload_n hx hb dX3_step_11 rfl (lv_at hl 0 rfl) ?_
  refine lv_iconst (v := (-1)) hx hb dX3_step_12 (by decide) ?_
  refine lv_icmp_ne (tgt := 17) hx hb dX3_step_13 (by decide) (fun hcd => ?_) (fun hcd => ?_)
  · rw [if_neg hcd] at hf
    refine lv_iload_n hx hb dX3_step_17 rfl (lv_at hl 0 rfl) ?_
    obtain ⟨q18, hq18, hf⟩ := mm_bd hf
    refine mm_SNi (rest := []) hC hM (c_X12_column l hq18) q2_189 q1_1 ykX12_column q5_93 q2_188 ⟨rfl, rfl⟩ ⟨Nat.le_of_ble_eq_true rfl, Nat.le_of_ble_eq_true rfl⟩ rfl hl.1 rfl (Nat.le_of_ble_eq_true rfl) dX3_step_18 ⟨Nat.le_of_ble_eq_true rfl, Nat.le_of_ble_eq_true rfl⟩ (fun r w18 H locs hM hw => ?_)
    obtain ⟨hr, hw⟩ := hw
    rw [hr]
    rw [hw] at hM
    refine lv_iconst (v := 4) hx hb dX3_step_21 (by decide) ?_
    refine lv_icmp_ne (tgt := 48) hx hb dX3_step_22 (by decide) (fun hcd => ?_) (fun hcd => ?_)
    · rw [if_neg hcd] at hf
      refine lv_aload_n hx hb dX3_step_48 rfl (lv_at hl 1 rfl) ?_
      refine mm_get hC hM (k := 1) hp_this.1 rfl inAX3 (by decide) q1_76 rfl dX3_step_49 ?_
      refine lv_iload_n hx hb dX3_step_52 rfl (lv_at hl 2 rfl) ?_
      refine lv_iload_n hx hb dX3_step_53 rfl (lv_at hl 0 rfl) ?_
      obtain ⟨hg54, hf⟩ := mm_gd hf
      refine mm_iast hC hM (hp_this.2.2.1) hg54 dX3_step_54 (fun w54 H locs hM hm => ?_)
      have hp_this : At3 G w54 b numbers (upd cells x1.toNatClampNeg q7) fares count nextNumber total removedFares meetings := ⟨hm.keep (hp_this.1) (by omega), hm.keep (hp_this.2.1) (by omega), hm.1, hm.keep (hp_this.2.2.2) (by omega)⟩
      have hF := hF.tr (hm.fr (by omega) (by omega))
      cases hf
      exact hret hM dX3_step_55 ⟨hp_this, hF⟩
    · rw [if_pos hcd] at hf
      refine lv_aload_n hx hb dX3_step_25 rfl (lv_at hl 1 rfl) ?_
      refine mm_get hC hM (k := 1) hp_this.1 rfl inAX3 (by decide) q1_76 rfl dX3_step_26 ?_
      refine lv_iload_n hx hb dX3_step_29 rfl (lv_at hl 2 rfl) ?_
      obtain ⟨hg30, hf⟩ := mm_gd hf
      refine mm_iald hC hM (hp_this.2.2.1) hg30 dX3_step_30 ?_
      obtain ⟨q31, hq31, hf⟩ := mm_bd hf
      refine mm_SNi (rest := []) hC hM (c_X12_column l hq31) q2_189 q1_1 ykX12_column q5_93 q2_188 ⟨rfl, rfl⟩ ⟨Nat.le_of_ble_eq_true rfl, Nat.le_of_ble_eq_true rfl⟩ rfl hl.1 rfl (Nat.le_of_ble_eq_true rfl) dX3_step_31 ⟨Nat.le_of_ble_eq_true rfl, Nat.le_of_ble_eq_true rfl⟩ (fun r w31 H locs hM hw => ?_)
      obtain ⟨hr, hw⟩ := hw
      rw [hr]
      rw [hw] at hM
      refine lv_iconst (v := 4) hx hb dX3_step_34 (by decide) ?_
      refine lv_icmp_eq (tgt := 48) hx hb dX3_step_35 (by decide) (fun hcd => ?_) (fun hcd => ?_)
      · rw [if_pos hcd] at hf
        refine lv_aload_n hx hb dX3_step_48 rfl (lv_at hl 1 rfl) ?_
        refine mm_get hC hM (k := 1) hp_this.1 rfl inAX3 (by decide) q1_76 rfl dX3_step_49 ?_
        refine lv_iload_n hx hb dX3_step_52 rfl (lv_at hl 2 rfl) ?_
        refine lv_iload_n hx hb dX3_step_53 rfl (lv_at hl 0 rfl) ?_
        obtain ⟨hg54, hf⟩ := mm_gd hf
        refine mm_iast hC hM (hp_this.2.2.1) hg54 dX3_step_54 (fun w54 H locs hM hm => ?_)
        have hp_this : At3 G w54 b numbers (upd cells x1.toNatClampNeg q7) fares count nextNumber total removedFares meetings := ⟨hm.keep (hp_this.1) (by omega), hm.keep (hp_this.2.1) (by omega), hm.1, hm.keep (hp_this.2.2.2) (by omega)⟩
        have hF := hF.tr (hm.fr (by omega) (by omega))
        cases hf
        exact hret hM dX3_step_55 ⟨hp_this, hF⟩
      · rw [if_neg hcd] at hf
        refine lv_aload_n hx hb dX3_step_38 rfl (lv_at hl 1 rfl) ?_
        refine lv_dup hx hb dX3_step_39 rfl ?_
        refine mm_get hC hM (k := 7) hp_this.1 rfl inAX3 (by decide) q1_89 rfl dX3_step_40 ?_
        refine lv_iconst (v := 1) hx hb dX3_step_43 (by decide) ?_
        refine lv_iadd hx hb dX3_step_44 ?_
        refine mm_put hC hM (k := 7) tyX3 hp_this.1 rfl inAX3 tyX3_ok nmX3 (by decide) q1_89 rfl rfl rfl rfl (Nat.le_of_ble_eq_true rfl) dX3_step_45 (fun w45 H locs hM hm => ?_)
        have hp_this : At3 G w45 b numbers cells fares count nextNumber total removedFares (meetings + 1) := ⟨hm.1, hm.keep (hp_this.2.1) (by omega), hm.keep (hp_this.2.2.1) (by omega), hm.keep (hp_this.2.2.2) (by omega)⟩
        have hF := hF.tr (hm.fr (by omega) (by omega))
        refine lv_aload_n hx hb dX3_step_48 rfl (lv_at hl 1 rfl) ?_
        refine mm_get hC hM (k := 1) hp_this.1 rfl inAX3 (by decide) q1_76 rfl dX3_step_49 ?_
        refine lv_iload_n hx hb dX3_step_52 rfl (lv_at hl 2 rfl) ?_
        refine lv_iload_n hx hb dX3_step_53 rfl (lv_at hl 0 rfl) ?_
        obtain ⟨hg54, hf⟩ := mm_gd hf
        refine mm_iast hC hM (hp_this.2.2.1) hg54 dX3_step_54 (fun w54 H locs hM hm => ?_)
        have hp_this : At3 G w54 b numbers (upd cells x1.toNatClampNeg q7) fares count nextNumber total removedFares (meetings + 1) := ⟨hm.keep (hp_this.1) (by omega), hm.keep (hp_this.2.1) (by omega), hm.1, hm.keep (hp_this.2.2.2) (by omega)⟩
        have hF := hF.tr (hm.fr (by omega) (by omega))
        cases hf
        exact hret hM dX3_step_55 ⟨hp_this, hF⟩
  · rw [if_pos hcd] at hf
    cases hf
    exact hret hM dX3_step_16 ⟨hp_this, hF⟩
def f_X3_pay (fares : Nat → Int32) (total : Int32) (x1 : Int32) (x2 : Int32) : Option ((Nat → Int32) × Int32) := mm_g (mm_ck x1 4) (mm_g (mm_ck x1 4) (some ((upd fares x1.toNatClampNeg ((fares x1.toNatClampNeg) + x2)), (total + x2))))
set_option maxHeartbeats 4000000 in
set_option maxRecDepth 100000 in
theorem c_X3_pay (l : Launch) {G : mm_G} {w : va_W} {sz : Nat} {b : Nat} {numbers : Nat → Int32} {cells : Nat → Int32} {fares : Nat → Int32} {count : Int32} {nextNumber : Int32} {total : Int32} {removedFares : Int32} {meetings : Int32} {x1 : Int32} {x2 : Int32} {X : (Nat → Int32) × Int32} (hf : f_X3_pay fares total x1 x2 = some X) (hp_this : At3 G w b numbers cells fares count nextNumber total removedFares meetings) : Met l yX3_pay (Cond.code yX3_pay cX3_pay 3 none :: gAll) ({ frames := 0, cells := 0, slots := 0, locals := 0 }) (va_Pc [.ref b, .int x1, .int x2] (mm_Pre G w sz)) (mm_Qv G w sz (fun w' => At3 G w' b numbers cells X.1 count nextNumber X.2 removedFares meetings ∧ mm_fr w w' b (b + 4))) 0 0 (va_A w sz) := by
  refine mm_headV [.ref b, .int x1, .int x2] (by decide +kernel) rfl (Nat.le_of_ble_eq_true rfl) ?_
  intro p e s m args below meth c A Q hsz hC hM hret hnm ls hl
  have hx := hC.1.1
  have hb := hC.1.2.1
  have hl : lv_has ls 3 [(0, .ref b), (1, .int x1), (2, .int x2)] := hl
  have hF : mm_fr w w b (b + 4) := mm_fr.rf
  rw [f_X3_pay] at hf
  refine lv_aload_n hx hb dX3_pay_0 rfl (lv_at hl 0 rfl) ?_
  refine mm_get hC hM (k := 2) hp_this.1 rfl inAX3 (by decide) q1_79 rfl dX3_pay_1 ?_
  refine lv_iload_n hx hb dX3_pay_4 rfl (lv_at hl 1 rfl) ?_
  refine lv_dup2_11 hx hb dX3_pay_5 rfl rfl ?_
  obtain ⟨hg6, hf⟩ := mm_gd hf
  refine mm_iald hC hM (hp_this.2.2.2) hg6 dX3_pay_6 ?_
  refine lv_iload_n hx hb dX3_pay_7 rfl (lv_at hl 2 rfl) ?_
  refine lv_iadd hx hb dX3_pay_8 ?_
  obtain ⟨hg9, hf⟩ := mm_gd hf
  refine mm_iast hC hM (hp_this.2.2.2) hg9 dX3_pay_9 (fun w9 H locs hM hm => ?_)
  have hp_this : At3 G w9 b numbers cells (upd fares x1.toNatClampNeg ((fares x1.toNatClampNeg) + x2)) count nextNumber total removedFares meetings := ⟨hm.keep (hp_this.1) (by omega), hm.keep (hp_this.2.1) (by omega), hm.keep (hp_this.2.2.1) (by omega), hm.1⟩
  have hF := hF.tr (hm.fr (by omega) (by omega))
  refine lv_aload_n hx hb dX3_pay_10 rfl (lv_at hl 0 rfl) ?_
  refine lv_dup hx hb dX3_pay_11 rfl ?_
  refine mm_get hC hM (k := 5) hp_this.1 rfl inAX3 (by decide) q1_85 rfl dX3_pay_12 ?_
  refine lv_iload_n hx hb dX3_pay_15 rfl (lv_at hl 2 rfl) ?_
  refine lv_iadd hx hb dX3_pay_16 ?_
  refine mm_put hC hM (k := 5) tyX3 hp_this.1 rfl inAX3 tyX3_ok nmX3 (by decide) q1_85 rfl rfl rfl rfl (Nat.le_of_ble_eq_true rfl) dX3_pay_17 (fun w17 H locs hM hm => ?_)
  have hp_this : At3 G w17 b numbers cells (upd fares x1.toNatClampNeg ((fares x1.toNatClampNeg) + x2)) count nextNumber (total + x2) removedFares meetings := ⟨hm.1, hm.keep (hp_this.2.1) (by omega), hm.keep (hp_this.2.2.1) (by omega), hm.keep (hp_this.2.2.2) (by omega)⟩
  have hF := hF.tr (hm.fr (by omega) (by omega))
  cases hf
  exact hret hM dX3_pay_20 ⟨hp_this, hF⟩
