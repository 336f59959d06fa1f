def f_X13_meanFares (K : Nat) (v : Nat → Int32) : Option (UInt64 × Int32) := if (v 3) = 0 then some (0, 1) else (f_X13_fares K v).bind fun q26 => mm_g (decide ((FP.ddiv (FP.i2d q26) (FP.i2d (v 3))) &&& 0x7fffffffffffffff ≤ 0x7ff0000000000000)) (some ((FP.ddiv (FP.i2d q26) (FP.i2d (v 3))), 0))
set_option maxHeartbeats 4000000 in
set_option maxRecDepth 100000 in
theorem c_X13_meanFares (l : Launch) {G : mm_G} {K : Nat} {w : va_W} {sz : Nat} {b : Nat} {thrown : Int32} {changes : Int32} {errorAt : Int32} {failedAt : Int32} {isSaved : Int32} {v : Nat → Int32} {before : Nat → Int32} {saved : Nat → Int32} {past : Nat → Int32} {far : Nat → Int32} {scratch : Nat → Int32} {best : Nat → Int32} {thenX : Int32} {thenY : Int32} {thenMet : Int32} {text : Nat → Int32} {line : Nat → Int32} {isLeft : Nat → Int32} {words : Nat → Int32} {wordAt : Nat → Int32} {textN : Int32} {hereP : Int32} {endP : Int32} {lineN : Int32} {isWrong : Int32} {isDoing : Int32} {X : UInt64 × Int32} (hf : f_X13_meanFares K v = some X) (hp_this : At13 G w b thrown changes errorAt failedAt isSaved v before saved past far scratch best thenX thenY thenMet text line isLeft words wordAt textN hereP endP lineN isWrong isDoing) : Met l yX13_meanFares (Cond.code yX13_meanFares cX13_meanFares 1 (some .double) :: gAll) ({ frames := 2, cells := 0, slots := 0, locals := 43 }) (va_Pc [.ref b] (mm_Pre G w sz)) (mm_Qd G w sz (fun r w' => r = X.1 ∧ At13 G w' b X.2 changes errorAt failedAt isSaved v before saved past far scratch best thenX thenY thenMet text line isLeft words wordAt textN hereP endP lineN isWrong isDoing ∧ mm_fr w w' b (b + 13))) 0 0 (va_A w sz) := by
  refine mm_headD [.ref b] (by decide +kernel) rfl (Nat.le_of_ble_eq_true rfl) ?_
  intro p e s m args below meth c A Q hsz hC hM hret ls hl
  have hx := hC.1.1
  have hb := hC.1.2.1
  have hl : lv_has ls 1 [(0, .ref b)] := hl
  have hF : mm_fr w w b (b + 13) := mm_fr.rf
  rw [f_X13_meanFares] at hf
  refine lv_aload_n hx hb dX13_meanFares_0 rfl (lv_at hl 0 rfl) ?_
  refine lv_aload_n hx hb dX13_meanFares_1 rfl (lv_at hl 0 rfl) ?_
  refine mm_get hC hM (k := 5) hp_this.1 rfl inAX13 (by decide) q7_10 rfl dX13_meanFares_2 ?_
  refine lv_iconst (v := 3) hx hb dX13_meanFares_5 (by decide) ?_
  refine mm_ialdN (N := 3) hC hM (hp_this.2.1) (by decide) (by unfold vp_in; decide) dX13_meanFares_6 ?_
  refine lv_if_ne (tgt := 14) hx hb dX13_meanFares_7 (by decide) (fun hcd => ?_) (fun hcd => ?_)
  · rw [if_neg hcd] at hf
    refine lv_iconst (v := 0) hx hb dX13_meanFares_14 (by decide) ?_
    refine mm_put hC hM (k := 0) tyX13 hp_this.1 rfl inAX13 tyX13_ok nmX13 (by decide) q7_5 rfl rfl rfl rfl (Nat.le_of_ble_eq_true rfl) dX13_meanFares_15 (fun w15 H locs hM hm => ?_)
    have hp_this : At13 G w15 b 0 changes errorAt failedAt isSaved v before saved past far scratch best thenX thenY thenMet text line isLeft words wordAt textN hereP endP lineN isWrong isDoing := ⟨hm.1, hm.keep (hp_this.2.1) (by omega), hm.keep (hp_this.2.2.1) (by omega), hm.keep (hp_this.2.2.2.1) (by omega), hm.keep (hp_this.2.2.2.2.1) (by omega), hm.keep (hp_this.2.2.2.2.2.1) (by omega), hm.keep (hp_this.2.2.2.2.2.2.1) (by omega), hm.keep (hp_this.2.2.2.2.2.2.2.1) (by omega), hm.keep (hp_this.2.2.2.2.2.2.2.2.1) (by omega), hm.keep (hp_this.2.2.2.2.2.2.2.2.2.1) (by omega), hm.keep (hp_this.2.2.2.2.2.2.2.2.2.2.1) (by omega), hm.keep (hp_this.2.2.2.2.2.2.2.2.2.2.2.1) (by omega), hm.keep (hp_this.2.2.2.2.2.2.2.2.2.2.2.2) (by omega)⟩
    have hF := hF.tr (hm.fr (by omega) (by omega))
    refine lv_aload_n hx hb dX13_meanFares_18 rfl (lv_at hl 0 rfl) ?_
    refine mm_get hC hM (k := 0) hp_this.1 rfl inAX13 (by decide) q7_5 rfl dX13_meanFares_19 ?_
    refine lv_if_ne (tgt := 41) hx hb dX13_meanFares_22 (by decide) (fun c => absurd (by decide) c) (fun _ => ?_)
    refine lv_aload_n hx hb dX13_meanFares_25 rfl (lv_at hl 0 rfl) ?_
    obtain ⟨q26, hq26, hf⟩ := mm_bd hf
    refine mm_Vi (rest := []) hC hM (c_X13_fares l hq26 hp_this) q8_225 q1_12 ykX13_fares q8_222 q8_224 qp_ccd8c27d hp_this.1 rfl ⟨rfl, rfl⟩ ⟨Nat.le_of_ble_eq_true rfl, Nat.le_of_ble_eq_true rfl⟩ rfl hl.1 rfl (Nat.le_of_ble_eq_true rfl) dX13_meanFares_26 ⟨Nat.le_of_ble_eq_true rfl, Nat.le_of_ble_eq_true rfl⟩ (fun r w26 H locs hM hw => ?_)
    obtain ⟨hr, hw⟩ := hw
    rw [hr]
    rw [hw] at hM
    refine lv_i2d hx hb dX13_meanFares_29 ?_
    refine lv_aload_n hx hb dX13_meanFares_30 rfl (lv_at hl 0 rfl) ?_
    refine mm_get hC hM (k := 5) hp_this.1 rfl inAX13 (by decide) q7_10 rfl dX13_meanFares_31 ?_
    refine lv_iconst (v := 3) hx hb dX13_meanFares_34 (by decide) ?_
    refine mm_ialdN (N := 3) hC hM (hp_this.2.1) (by decide) (by unfold vp_in; decide) dX13_meanFares_35 ?_
    refine lv_i2d hx hb dX13_meanFares_36 ?_
    obtain ⟨hg37, hf⟩ := mm_gb hf
    refine lv_ddiv hx hb dX13_meanFares_37 (mm_n64 hg37) ?_
    refine lv_goto (tgt := 42) hx hb dX13_meanFares_38 (by decide) ?_
    cases hf
    exact hret hM dX13_meanFares_42 ⟨rfl, hp_this, hF⟩
  · rw [if_pos hcd] at hf
    refine lv_iconst (v := 1) hx hb dX13_meanFares_10 (by decide) ?_
    refine lv_goto (tgt := 15) hx hb dX13_meanFares_11 (by decide) ?_
    refine mm_put hC hM (k := 0) tyX13 hp_this.1 rfl inAX13 tyX13_ok nmX13 (by decide) q7_5 rfl rfl rfl rfl (Nat.le_of_ble_eq_true rfl) dX13_meanFares_15 (fun w15 H locs hM hm => ?_)
    have hp_this : At13 G w15 b 1 changes errorAt failedAt isSaved v before saved past far scratch best thenX thenY thenMet text line isLeft words wordAt textN hereP endP lineN isWrong isDoing := ⟨hm.1, hm.keep (hp_this.2.1) (by omega), hm.keep (hp_this.2.2.1) (by omega), hm.keep (hp_this.2.2.2.1) (by omega), hm.keep (hp_this.2.2.2.2.1) (by omega), hm.keep (hp_this.2.2.2.2.2.1) (by omega), hm.keep (hp_this.2.2.2.2.2.2.1) (by omega), hm.keep (hp_this.2.2.2.2.2.2.2.1) (by omega), hm.keep (hp_this.2.2.2.2.2.2.2.2.1) (by omega), hm.keep (hp_this.2.2.2.2.2.2.2.2.2.1) (by omega), hm.keep (hp_this.2.2.2.2.2.2.2.2.2.2.1) (by omega), hm.keep (hp_this.2.2.2.2.2.2.2.2.2.2.2.1) (by omega), hm.keep (hp_this.2.2.2.2.2.2.2.2.2.2.2.2) (by omega)⟩
    have hF := hF.tr (hm.fr (by omega) (by omega))
    refine lv_aload_n hx hb dX13_meanFares_18 rfl (lv_at hl 0 rfl) ?_
    refine mm_get hC hM (k := 0) hp_this.1 rfl inAX13 (by decide) q7_5 rfl dX13_meanFares_19 ?_
    refine lv_if_ne (tgt := 41) hx hb dX13_meanFares_22 (by decide) (fun _ => ?_) (fun c => absurd c (by decide))
    refine lv_dconst0 hx hb dX13_meanFares_41 ?_
    cases hf
    exact hret hM dX13_meanFares_42 ⟨rfl, hp_this, hF⟩
def f_X13_passableShare_L9 (v : Nat → Int32) : Nat → (Int32) → (Int32) → Option (Int32)
  | 0, _, _ => none
  | n + 1, x1, x2 => if 81 ≤ x2 then some x1 else (f_X13_isFree v x2).bind fun q18 => if q18 = 0 then f_X13_passableShare_L9 v n (x1 + 0) (x2 + 1) else f_X13_passableShare_L9 v n (x1 + 1) (x2 + 1)
def f_X13_passableShare (K : Nat) (v : Nat → Int32) : Option (UInt32 × Int32) := (f_X13_passableShare_L9 v K 0 0).bind fun q9 => mm_g (decide ((FP.fdiv (FP.i2f q9) 1117913088) &&& 0x7fffffff ≤ 0x7f800000)) (some ((FP.fdiv (FP.i2f q9) 1117913088), 0))
set_option maxHeartbeats 4000000 in
set_option maxRecDepth 100000 in
theorem c_X13_passableShare (l : Launch) {G : mm_G} {K : Nat} {w : va_W} {sz : Nat} {b : Nat} {thrown : Int32} {changes : Int32} {errorAt : Int32} {failedAt : Int32} {isSaved : Int32} {v : Nat → Int32} {before : Nat → Int32} {saved : Nat → Int32} {past : Nat → Int32} {far : Nat → Int32} {scratch : Nat → Int32} {best : Nat → Int32} {thenX : Int32} {thenY : Int32} {thenMet : Int32} {text : Nat → Int32} {line : Nat → Int32} {isLeft : Nat → Int32} {words : Nat → Int32} {wordAt : Nat → Int32} {textN : Int32} {hereP : Int32} {endP : Int32} {lineN : Int32} {isWrong : Int32} {isDoing : Int32} {X : UInt32 × Int32} (hf : f_X13_passableShare K v = some X) (hp_this : At13 G w b thrown changes errorAt failedAt isSaved v before saved past far scratch best thenX thenY thenMet text line isLeft words wordAt textN hereP endP lineN isWrong isDoing) : Met l yX13_passableShare (Cond.code yX13_passableShare cX13_passableShare 3 (some .float) :: gAll) ({ frames := 2, cells := 0, slots := 0, locals := 42 }) (va_Pc [.ref b] (mm_Pre G w sz)) (mm_Qf G w sz (fun r w' => r = X.1 ∧ At13 G w' b X.2 changes errorAt failedAt isSaved v before saved past far scratch best thenX thenY thenMet text line isLeft words wordAt textN hereP endP lineN isWrong isDoing ∧ mm_fr w w' b (b + 13))) 0 0 (va_A w sz) := by
  refine mm_headF [.ref b] (by decide +kernel) rfl (Nat.le_of_ble_eq_true rfl) ?_
  intro p e s m args below meth c A Q hsz hC hM hret ls hl
  have hx := hC.1.1
  have hb := hC.1.2.1
  have hl : lv_has ls 3 [(0, .ref b)] := hl
  have hF : mm_fr w w b (b + 13) := mm_fr.rf
  rw [f_X13_passableShare] at hf
  refine lv_aload_n hx hb dX13_passableShare_0 rfl (lv_at hl 0 rfl) ?_
  refine lv_iconst (v := 0) hx hb dX13_passableShare_1 (by decide) ?_
  refine mm_put hC hM (k := 0) tyX13 hp_this.1 rfl inAX13 tyX13_ok nmX13 (by decide) q7_5 rfl rfl rfl rfl (Nat.le_of_ble_eq_true rfl) dX13_passableShare_2 (fun w2 H locs hM hm => ?_)
  have hp_this : At13 G w2 b 0 changes errorAt failedAt isSaved v before saved past far scratch best thenX thenY thenMet text line isLeft words wordAt textN hereP endP lineN isWrong isDoing := ⟨hm.1, hm.keep (hp_this.2.1) (by omega), hm.keep (hp_this.2.2.1) (by omega), hm.keep (hp_this.2.2.2.1) (by omega), hm.keep (hp_this.2.2.2.2.1) (by omega), hm.keep (hp_this.2.2.2.2.2.1) (by omega), hm.keep (hp_this.2.2.2.2.2.2.1) (by omega), hm.keep (hp_this.2.2.2.2.2.2.2.1) (by omega), hm.keep (hp_this.2.2.2.2.2.2.2.2.1) (by omega), hm.keep (hp_this.2.2.2.2.2.2.2.2.2.1) (by omega), hm.keep (hp_this.2.2.2.2.2.2.2.2.2.2.1) (by omega), hm.keep (hp_this.2.2.2.2.2.2.2.2.2.2.2.1) (by omega), hm.keep (hp_this.2.2.2.2.2.2.2.2.2.2.2.2) (by omega)⟩
  have hF := hF.tr (hm.fr (by omega) (by omega))
  refine lv_iconst (v := 0) hx hb dX13_passableShare_5 (by decide) ?_
  refine lv_istore_n (lv' := [(1, .int 0), (0, .ref b)]) hx hb dX13_passableShare_6 rfl hl (by decide) rfl (fun ls hl => ?_)
  refine lv_iconst (v := 0) hx hb dX13_passableShare_7 (by decide) ?_
  refine lv_istore_n (lv' := [(2, .int 0), (1, .int 0), (0, .ref b)]) hx hb dX13_passableShare_8 rfl hl (by decide) rfl (fun ls hl => ?_)
  have L9 : ∀ (n : Nat) (L9_x1 : Int32) (L9_x2 : Int32) (X : Int32), f_X13_passableShare_L9 v n L9_x1 L9_x2 = some X → ∀ (H : Heap) (locs : List Loc), mm_S G A s.heap w2 H locs → ∀ (ls : Array Slot), lv_has ls 3 [(0, .ref b), (1, .int L9_x1), (2, .int L9_x2)] → (∀ (H : Heap) (locs : List Loc), mm_S G A s.heap w2 H locs → ∀ (ls : Array Slot), lv_has ls 3 [(1, .int X)] → W p l e ({ frames := 2, cells := 0, slots := 0, locals := 42 } : Room) s m args below meth c H locs 0 0 Q (F0 m 37 ls [])) → W p l e ({ frames := 2, cells := 0, slots := 0, locals := 42 } : Room) s m args below meth c H locs 0 0 Q (F0 m 9 ls []) := by
    intro n
    induction n with
    | zero => intro L9_x1 L9_x2 X hf; cases hf
    | succ n ih =>
      intro L9_x1 L9_x2 X hf H locs hM ls hl hk
      rw [f_X13_passableShare_L9] at hf
      refine lv_iload_n hx hb dX13_passableShare_9 rfl (lv_at hl 2 rfl) ?_
      refine lv_bipush (v := 81) hx hb dX13_passableShare_10 (by decide) ?_
      refine lv_icmp_ge (tgt := 37) hx hb dX13_passableShare_12 (by decide) (fun hcd => ?_) (fun hcd => ?_)
      · rw [if_pos hcd] at hf
        cases hf
        exact hk _ _ hM _ (lv_sub hl [1] rfl)
      · rw [if_neg hcd] at hf
        refine lv_iload_n hx hb dX13_passableShare_15 rfl (lv_at hl 1 rfl) ?_
        refine lv_aload_n hx hb dX13_passableShare_16 rfl (lv_at hl 0 rfl) ?_
        refine lv_iload_n hx hb dX13_passableShare_17 rfl (lv_at hl 2 rfl) ?_
        obtain ⟨q18, hq18, hf⟩ := mm_bd hf
        refine mm_Vi (rest := [.int L9_x1]) hC hM (c_X13_isFree l hq18 hp_this) q7_165 q1_12 ykX13_isFree q7_162 q7_164 qp_41d31006 hp_this.1 rfl ⟨rfl, rfl⟩ ⟨Nat.le_of_ble_eq_true rfl, Nat.le_of_ble_eq_true rfl⟩ rfl hl.1 rfl (Nat.le_of_ble_eq_true rfl) dX13_passableShare_18 ⟨Nat.le_of_ble_eq_true rfl, Nat.le_of_ble_eq_true rfl⟩ (fun r w18 H locs hM hw => ?_)
        obtain ⟨hr, hw⟩ := hw
        rw [hr]
        rw [hw] at hM
        refine lv_if_eq (tgt := 28) hx hb dX13_passableShare_21 (by decide) (fun hcd => ?_) (fun hcd => ?_)
        · rw [if_pos hcd] at hf
          refine lv_iconst (v := 0) hx hb dX13_passableShare_28 (by decide) ?_
          refine lv_iadd hx hb dX13_passableShare_29 ?_
          refine lv_istore_n (lv' := [(1, .int (L9_x1 + 0)), (0, .ref b), (2, .int L9_x2)]) hx hb dX13_passableShare_30 rfl hl (by decide) rfl (fun ls hl => ?_)
          refine lv_iinc (v := (L9_x2 + 1)) (lv' := [(2, .int (L9_x2 + 1)), (1, .int (L9_x1 + 0)), (0, .ref b)]) hx hb dX13_passableShare_31 hl (k := 2) rfl rfl (by decide) rfl (fun ls hl => ?_)
          refine lv_goto (tgt := 9) hx hb dX13_passableShare_34 (by decide) ?_
          exact ih _ _ _ hf _ _ hM _ (lv_sub hl [2, 1, 0] rfl) hk
        · rw [if_neg hcd] at hf
          refine lv_iconst (v := 1) hx hb dX13_passableShare_24 (by decide) ?_
          refine lv_goto (tgt := 29) hx hb dX13_passableShare_25 (by decide) ?_
          refine lv_iadd hx hb dX13_passableShare_29 ?_
          refine lv_istore_n (lv' := [(1, .int (L9_x1 + 1)), (0, .ref b), (2, .int L9_x2)]) hx hb dX13_passableShare_30 rfl hl (by decide) rfl (fun ls hl => ?_)
          refine lv_iinc (v := (L9_x2 + 1)) (lv' := [(2, .int (L9_x2 + 1)), (1, .int (L9_x1 + 1)), (0, .ref b)]) hx hb dX13_passableShare_31 hl (k := 2) rfl rfl (by decide) rfl (fun ls hl => ?_)
          refine lv_goto (tgt := 9) hx hb dX13_passableShare_34 (by decide) ?_
          exact ih _ _ _ hf _ _ hM _ (lv_sub hl [2, 1, 0] rfl) hk
  obtain ⟨q9, hq9, hf⟩ := mm_bd hf
  refine L9 K _ _ _ hq9 _ _ hM _ (lv_sub hl [2, 1, 0] rfl) (fun H locs hM ls hl => ?_)
  refine lv_iload_n hx hb dX13_passableShare_37 rfl (lv_at hl 0 rfl) ?_
  refine lv_i2f hx hb dX13_passableShare_38 ?_
  refine lv_ldcwf hx hb hC.1.2.2.2.1 (hC.1.2.2.2.2 _ q9_71) dX13_passableShare_39 ?_
  obtain ⟨hg42, hf⟩ := mm_gb hf
  refine lv_fdiv hx hb dX13_passableShare_42 (mm_n32 hg42) ?_
  cases hf
  exact hret hM dX13_passableShare_43 ⟨rfl, hp_this, hF⟩
