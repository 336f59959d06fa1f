def f_X13_thrown (thrown : Int32) : Option (Int32) := some thrown
set_option maxHeartbeats 4000000 in
set_option maxRecDepth 100000 in
theorem c_X13_thrown (l : Launch) {G : mm_G} {w : va_W} {sz : Nat} {b : Nat} {thrown : Int32} {changes : Int32} {errorAt : Int32} {failedAt : Int32} {isSaved : Int32} {v : Nat → Int32} {before : Nat → Int32} {saved : Nat → Int32} {past : Nat → Int32} {far : Nat → Int32} {scratch : Nat → Int32} {best : Nat → Int32} {thenX : Int32} {thenY : Int32} {thenMet : Int32} {text : Nat → Int32} {line : Nat → Int32} {isLeft : Nat → Int32} {words : Nat → Int32} {wordAt : Nat → Int32} {textN : Int32} {hereP : Int32} {endP : Int32} {lineN : Int32} {isWrong : Int32} {isDoing : Int32} {X : Int32} (hf : f_X13_thrown thrown = some X) (hp_this : At13 G w b thrown changes errorAt failedAt isSaved v before saved past far scratch best thenX thenY thenMet text line isLeft words wordAt textN hereP endP lineN isWrong isDoing) : Met l yX13_thrown (Cond.code yX13_thrown cX13_thrown 1 (some .int) :: gAll) ({ frames := 0, cells := 0, slots := 0, locals := 0 }) (va_Pc [.ref b] (mm_Pre G w sz)) (mm_Qi G w sz (fun r w' => r = X ∧ w' = w)) 0 0 (va_A w sz) := by
  refine mm_headI [.ref b] (by decide +kernel) rfl (Nat.le_of_ble_eq_true rfl) ?_
  intro p e s m args below meth c A Q hsz hC hM hret ls hl
  have hx := hC.1.1
  have hb := hC.1.2.1
  have hl : lv_has ls 1 [(0, .ref b)] := hl
  rw [f_X13_thrown] at hf
  refine lv_aload_n hx hb dX13_thrown_0 rfl (lv_at hl 0 rfl) ?_
  refine mm_get hC hM (k := 0) hp_this.1 rfl inAX13 (by decide) q7_5 rfl dX13_thrown_1 ?_
  cases hf
  exact hret hM dX13_thrown_4 rfl ⟨rfl, rfl⟩
def f_X13_fail (x1 : Int32) : Option (Int32 × Int32) := some (0, x1)
set_option maxHeartbeats 4000000 in
set_option maxRecDepth 100000 in
theorem c_X13_fail (l : Launch) {G : mm_G} {w : va_W} {sz : Nat} {b : Nat} {thrown : Int32} {changes : Int32} {errorAt : Int32} {failedAt : Int32} {isSaved : Int32} {v : Nat → Int32} {before : Nat → Int32} {saved : Nat → Int32} {past : Nat → Int32} {far : Nat → Int32} {scratch : Nat → Int32} {best : Nat → Int32} {thenX : Int32} {thenY : Int32} {thenMet : Int32} {text : Nat → Int32} {line : Nat → Int32} {isLeft : Nat → Int32} {words : Nat → Int32} {wordAt : Nat → Int32} {textN : Int32} {hereP : Int32} {endP : Int32} {lineN : Int32} {isWrong : Int32} {isDoing : Int32} {x1 : Int32} {X : Int32 × Int32} (hf : f_X13_fail x1 = some X) (hp_this : At13 G w b thrown changes errorAt failedAt isSaved v before saved past far scratch best thenX thenY thenMet text line isLeft words wordAt textN hereP endP lineN isWrong isDoing) : Met l yX13_fail (Cond.code yX13_fail cX13_fail 2 (some .int) :: gAll) ({ frames := 0, cells := 0, slots := 0, locals := 0 }) (va_Pc [.ref b, .int x1] (mm_Pre G w sz)) (mm_Qi G w sz (fun r w' => r = X.1 ∧ At13 G w' b X.2 changes errorAt failedAt isSaved v before saved past far scratch best thenX thenY thenMet text line isLeft words wordAt textN hereP endP lineN isWrong isDoing ∧ mm_fr w w' b (b + 13))) 0 0 (va_A w sz) := by
  refine mm_headI [.ref b, .int x1] (by decide +kernel) rfl (Nat.le_of_ble_eq_true rfl) ?_
  intro p e s m args below meth c A Q hsz hC hM hret ls hl
  have hx := hC.1.1
  have hb := hC.1.2.1
  have hl : lv_has ls 2 [(0, .ref b), (1, .int x1)] := hl
  have hF : mm_fr w w b (b + 13) := mm_fr.rf
  rw [f_X13_fail] at hf
  refine lv_aload_n hx hb dX13_fail_0 rfl (lv_at hl 0 rfl) ?_
  refine lv_iload_n hx hb dX13_fail_1 rfl (lv_at hl 1 rfl) ?_
  refine mm_put hC hM (k := 0) tyX13 hp_this.1 rfl inAX13 tyX13_ok nmX13 (by decide) q7_5 rfl rfl rfl rfl (Nat.le_of_ble_eq_true rfl) dX13_fail_2 (fun w2 H locs hM hm => ?_)
  have hp_this : At13 G w2 b x1 changes errorAt failedAt isSaved v before saved past far scratch best thenX thenY thenMet text line isLeft words wordAt textN hereP endP lineN isWrong isDoing := ⟨hm.1, hm.keep (hp_this.2.1) (by omega), hm.keep (hp_this.2.2.1) (by omega), hm.keep (hp_this.2.2.2.1) (by omega), hm.keep (hp_this.2.2.2.2.1) (by omega), hm.keep (hp_this.2.2.2.2.2.1) (by omega), hm.keep (hp_this.2.2.2.2.2.2.1) (by omega), hm.keep (hp_this.2.2.2.2.2.2.2.1) (by omega), hm.keep (hp_this.2.2.2.2.2.2.2.2.1) (by omega), hm.keep (hp_this.2.2.2.2.2.2.2.2.2.1) (by omega), hm.keep (hp_this.2.2.2.2.2.2.2.2.2.2.1) (by omega), hm.keep (hp_this.2.2.2.2.2.2.2.2.2.2.2.1) (by omega), hm.keep (hp_this.2.2.2.2.2.2.2.2.2.2.2.2) (by omega)⟩
  have hF := hF.tr (hm.fr (by omega) (by omega))
  refine lv_iconst (v := 0) hx hb dX13_fail_5 (by decide) ?_
  cases hf
  exact hret hM dX13_fail_6 rfl ⟨rfl, hp_this, hF⟩
def f_X13_isIn (x0 : Int32) (x1 : Int32) (x2 : Int32) : Option (Int32) := if x0 < x1 then some 0 else if x2 < x0 then some 0 else some 1
set_option maxHeartbeats 4000000 in
set_option maxRecDepth 100000 in
theorem c_X13_isIn (l : Launch) {G : mm_G} {w : va_W} {sz : Nat} {x0 : Int32} {x1 : Int32} {x2 : Int32} {X : Int32} (hf : f_X13_isIn x0 x1 x2 = some X) : Met l yX13_isIn (Cond.code yX13_isIn cX13_isIn 3 (some .boolean) :: gAll) ({ frames := 0, cells := 0, slots := 0, locals := 0 }) (va_Pc [.int x0, .int x1, .int x2] (mm_Pre G w sz)) (mm_Qi G w sz (fun r w' => r = X ∧ w' = w)) 0 0 (va_A w sz) := by
  refine mm_headI [.int x0, .int x1, .int x2] (by decide +kernel) rfl (Nat.le_of_ble_eq_true rfl) ?_
  intro p e s m args below meth c A Q hsz hC hM hret ls hl
  have hx := hC.1.1
  have hb := hC.1.2.1
  have hl : lv_has ls 3 [(0, .int x0), (1, .int x1), (2, .int x2)] := hl
  rw [f_X13_isIn] at hf
  refine lv_iload_n hx hb dX13_isIn_0 rfl (lv_at hl 0 rfl) ?_
  refine lv_iload_n hx hb dX13_isIn_1 rfl (lv_at hl 1 rfl) ?_
  refine lv_icmp_lt (tgt := 14) hx hb dX13_isIn_2 (by decide) (fun hcd => ?_) (fun hcd => ?_)
  · rw [if_pos hcd] at hf
    refine lv_iconst (v := 0) hx hb dX13_isIn_14 (by decide) ?_
    cases hf
    exact hret hM dX13_isIn_15 rfl ⟨rfl, rfl⟩
  · rw [if_neg hcd] at hf
    refine lv_iload_n hx hb dX13_isIn_5 rfl (lv_at hl 0 rfl) ?_
    refine lv_iload_n hx hb dX13_isIn_6 rfl (lv_at hl 2 rfl) ?_
    refine lv_icmp_gt (tgt := 14) hx hb dX13_isIn_7 (by decide) (fun hcd => ?_) (fun hcd => ?_)
    · rw [if_pos hcd] at hf
      refine lv_iconst (v := 0) hx hb dX13_isIn_14 (by decide) ?_
      cases hf
      exact hret hM dX13_isIn_15 rfl ⟨rfl, rfl⟩
    · rw [if_neg hcd] at hf
      refine lv_iconst (v := 1) hx hb dX13_isIn_10 (by decide) ?_
      refine lv_goto (tgt := 15) hx hb dX13_isIn_11 (by decide) ?_
      cases hf
      exact hret hM dX13_isIn_15 rfl ⟨rfl, rfl⟩
def f_X13_lays_L2 (p1 : Nat → Int32) : Nat → (Int32) → (Nat → Int32) → Option (Nat → Int32)
  | 0, _, _ => none
  | n + 1, x2, p0 => if 238 ≤ x2 then some p0 else mm_g (mm_ck x2 238) (mm_g (mm_ck x2 238) (f_X13_lays_L2 p1 n (x2 + 1) (upd p0 x2.toNatClampNeg (p1 x2.toNatClampNeg))))
def f_X13_lays (K : Nat) (p0 : Nat → Int32) (p1 : Nat → Int32) : Option (Nat → Int32) := (f_X13_lays_L2 p1 K 0 p0).bind fun q2 => some q2
set_option maxHeartbeats 4000000 in
set_option maxRecDepth 100000 in
theorem c_X13_lays (l : Launch) {G : mm_G} {K : Nat} {w : va_W} {sz : Nat} {a0 : Nat} {a1 : Nat} {p0 : Nat → Int32} {p1 : Nat → Int32} {X : Nat → Int32} (hf : f_X13_lays K p0 p1 = some X) (hp_p0 : (a0, (.inl (G.2 0, 238, .inl p0) : va_E)) ∈ w) (hp_p1 : (a1, (.inl (G.2 0, 238, .inl p1) : va_E)) ∈ w) (hd0 : a0 + 1 ≤ a1 ∨ a1 + 1 ≤ a0) : Met l yX13_lays (Cond.code yX13_lays cX13_lays 3 none :: gAll) ({ frames := 0, cells := 0, slots := 0, locals := 0 }) (va_Pc [.ref a0, .ref a1] (mm_Pre G w sz)) (mm_Qv G w sz (fun w' => (a0, (.inl (G.2 0, 238, .inl X) : va_E)) ∈ w' ∧ mm_fr w w' a0 (a0 + 1))) 0 0 (va_A w sz) := by
  refine mm_headV [.ref a0, .ref a1] (by decide +kernel) rfl (Nat.le_of_ble_eq_true rfl) ?_
  intro p e s m args below meth c A Q hsz hC hM hret hnm ls hl
  have hx := hC.1.1
  have hb := hC.1.2.1
  have hl : lv_has ls 3 [(0, .ref a0), (1, .ref a1)] := hl
  have hF : mm_fr w w a0 (a0 + 1) := mm_fr.rf
  rw [f_X13_lays] at hf
  refine lv_iconst (v := 0) hx hb dX13_lays_0 (by decide) ?_
  refine lv_istore_n (lv' := [(2, .int 0), (0, .ref a0), (1, .ref a1)]) hx hb dX13_lays_1 rfl hl (by decide) rfl (fun ls hl => ?_)
  have L2 : ∀ (n : Nat) (L2_x2 : Int32) (L2_p0 : Nat → Int32) (X : Nat → Int32), f_X13_lays_L2 p1 n L2_x2 L2_p0 = some X → ∀ (L2_w : va_W) (H : Heap) (locs : List Loc), mm_S G A s.heap L2_w H locs → (a0, (.inl (G.2 0, 238, .inl L2_p0) : va_E)) ∈ L2_w → (a1, (.inl (G.2 0, 238, .inl p1) : va_E)) ∈ L2_w → mm_fr w L2_w a0 (a0 + 1) → ∀ (ls : Array Slot), lv_has ls 3 [(0, .ref a0), (1, .ref a1), (2, .int L2_x2)] → (∀ (w9 : va_W) (H : Heap) (locs : List Loc), mm_S G A s.heap w9 H locs → (a0, (.inl (G.2 0, 238, .inl X) : va_E)) ∈ w9 → (a1, (.inl (G.2 0, 238, .inl p1) : va_E)) ∈ w9 → mm_fr w w9 a0 (a0 + 1) → ∀ (ls : Array Slot), lv_has ls 3 [] → W p l e ({ frames := 0, cells := 0, slots := 0, locals := 0 } : Room) s m args below meth c H locs 0 0 Q (F0 m 21 ls [])) → W p l e ({ frames := 0, cells := 0, slots := 0, locals := 0 } : Room) s m args below meth c H locs 0 0 Q (F0 m 2 ls []) := by
    intro n
    induction n with
    | zero => intro L2_x2 L2_p0 X hf; cases hf
    | succ n ih =>
      intro L2_x2 L2_p0 X hf L2_w H locs hM hp_p0 hp_p1 hF ls hl hk
      rw [f_X13_lays_L2] at hf
      refine lv_iload_n hx hb dX13_lays_2 rfl (lv_at hl 2 rfl) ?_
      refine lv_sipush (v := 238) hx hb dX13_lays_3 (by decide) ?_
      refine lv_icmp_ge (tgt := 21) hx hb dX13_lays_6 (by decide) (fun hcd => ?_) (fun hcd => ?_)
      · rw [if_pos hcd] at hf
        cases hf
        exact hk _ _ _ hM hp_p0 hp_p1 hF _ (lv_sub hl [] rfl)
      · rw [if_neg hcd] at hf
        refine lv_aload_n hx hb dX13_lays_9 rfl (lv_at hl 0 rfl) ?_
        refine lv_iload_n hx hb dX13_lays_10 rfl (lv_at hl 2 rfl) ?_
        refine lv_aload_n hx hb dX13_lays_11 rfl (lv_at hl 1 rfl) ?_
        refine lv_iload_n hx hb dX13_lays_12 rfl (lv_at hl 2 rfl) ?_
        obtain ⟨hg13, hf⟩ := mm_gd hf
        refine mm_iald hC hM hp_p1 hg13 dX13_lays_13 ?_
        obtain ⟨hg14, hf⟩ := mm_gd hf
        refine mm_iast hC hM hp_p0 hg14 dX13_lays_14 (fun w14 H locs hM hm => ?_)
        have hp_p0 := hm.1
        have hp_p1 := hm.keep hp_p1 (by omega)
        have hF := hF.tr (hm.fr (by omega) (by omega))
        refine lv_iinc (v := (L2_x2 + 1)) (lv' := [(2, .int (L2_x2 + 1)), (0, .ref a0), (1, .ref a1)]) hx hb dX13_lays_15 hl (k := 2) rfl rfl (by decide) rfl (fun ls hl => ?_)
        refine lv_goto (tgt := 2) hx hb dX13_lays_18 (by decide) ?_
        exact ih _ _ _ hf _ _ _ hM hp_p0 hp_p1 hF _ (lv_sub hl [1, 2, 0] rfl) hk
  obtain ⟨q2, hq2, hf⟩ := mm_bd hf
  refine L2 K _ _ _ hq2 _ _ _ hM hp_p0 hp_p1 hF _ (lv_sub hl [1, 2, 0] rfl) (fun w2 H locs hM hp_p0 hp_p1 hF ls hl => ?_)
  cases hf
  exact hret hM dX13_lays_21 ⟨hp_p0, hF⟩
def f_X13_begins (K : Nat) (v : Nat → Int32) (before : Nat → Int32) : Option (Int32 × (Nat → Int32)) := (f_X13_lays K before v).bind fun q13 => some (0, q13)
set_option maxHeartbeats 4000000 in
set_option maxRecDepth 100000 in
theorem c_X13_begins (l : Launch) {G : mm_G} {K : Nat} {w : va_W} {sz : Nat} {b : Nat} {thrown : Int32} {changes : Int32} {errorAt : Int32} {failedAt : Int32} {isSaved : Int32} {v : Nat → Int32} {before : Nat → Int32} {saved : Nat → Int32} {past : Nat → Int32} {far : Nat → Int32} {scratch : Nat → Int32} {best : Nat → Int32} {thenX : Int32} {thenY : Int32} {thenMet : Int32} {text : Nat → Int32} {line : Nat → Int32} {isLeft : Nat → Int32} {words : Nat → Int32} {wordAt : Nat → Int32} {textN : Int32} {hereP : Int32} {endP : Int32} {lineN : Int32} {isWrong : Int32} {isDoing : Int32} {X : Int32 × (Nat → Int32)} (hf : f_X13_begins K v before = some X) (hp_this : At13 G w b thrown changes errorAt failedAt isSaved v before saved past far scratch best thenX thenY thenMet text line isLeft words wordAt textN hereP endP lineN isWrong isDoing) : Met l yX13_begins (Cond.code yX13_begins cX13_begins 1 none :: gAll) ({ frames := 1, cells := 0, slots := 0, locals := 22 }) (va_Pc [.ref b] (mm_Pre G w sz)) (mm_Qv G w sz (fun w' => At13 G w' b X.1 changes errorAt failedAt isSaved v X.2 saved past far scratch best thenX thenY thenMet text line isLeft words wordAt textN hereP endP lineN isWrong isDoing ∧ mm_fr w w' b (b + 13))) 0 0 (va_A w sz) := by
  refine mm_headV [.ref b] (by decide +kernel) rfl (Nat.le_of_ble_eq_true rfl) ?_
  intro p e s m args below meth c A Q hsz hC hM hret hnm ls hl
  have hx := hC.1.1
  have hb := hC.1.2.1
  have hl : lv_has ls 1 [(0, .ref b)] := hl
  have hF : mm_fr w w b (b + 13) := mm_fr.rf
  rw [f_X13_begins] at hf
  refine lv_aload_n hx hb dX13_begins_0 rfl (lv_at hl 0 rfl) ?_
  refine lv_iconst (v := 0) hx hb dX13_begins_1 (by decide) ?_
  refine mm_put hC hM (k := 0) tyX13 hp_this.1 rfl inAX13 tyX13_ok nmX13 (by decide) q7_5 rfl rfl rfl rfl (Nat.le_of_ble_eq_true rfl) dX13_begins_2 (fun w2 H locs hM hm => ?_)
  have hp_this : At13 G w2 b 0 changes errorAt failedAt isSaved v before saved past far scratch best thenX thenY thenMet text line isLeft words wordAt textN hereP endP lineN isWrong isDoing := ⟨hm.1, hm.keep (hp_this.2.1) (by omega), hm.keep (hp_this.2.2.1) (by omega), hm.keep (hp_this.2.2.2.1) (by omega), hm.keep (hp_this.2.2.2.2.1) (by omega), hm.keep (hp_this.2.2.2.2.2.1) (by omega), hm.keep (hp_this.2.2.2.2.2.2.1) (by omega), hm.keep (hp_this.2.2.2.2.2.2.2.1) (by omega), hm.keep (hp_this.2.2.2.2.2.2.2.2.1) (by omega), hm.keep (hp_this.2.2.2.2.2.2.2.2.2.1) (by omega), hm.keep (hp_this.2.2.2.2.2.2.2.2.2.2.1) (by omega), hm.keep (hp_this.2.2.2.2.2.2.2.2.2.2.2.1) (by omega), hm.keep (hp_this.2.2.2.2.2.2.2.2.2.2.2.2) (by omega)⟩
  have hF := hF.tr (hm.fr (by omega) (by omega))
  refine lv_aload_n hx hb dX13_begins_5 rfl (lv_at hl 0 rfl) ?_
  refine mm_get hC hM (k := 6) hp_this.1 rfl inAX13 (by decide) q7_11 rfl dX13_begins_6 ?_
  refine lv_aload_n hx hb dX13_begins_9 rfl (lv_at hl 0 rfl) ?_
  refine mm_get hC hM (k := 5) hp_this.1 rfl inAX13 (by decide) q7_10 rfl dX13_begins_10 ?_
  obtain ⟨q13, hq13, hf⟩ := mm_bd hf
  refine mm_Sv (rest := []) hC hM (c_X13_lays l hq13 (hp_this.2.2.1) (hp_this.2.1) (by omega)) q7_98 q1_12 ykX13_lays q7_96 q7_97 ⟨rfl, rfl⟩ ⟨Nat.le_of_ble_eq_true rfl, Nat.le_of_ble_eq_true rfl⟩ rfl hl.1 rfl (Nat.le_of_ble_eq_true rfl) dX13_begins_13 ⟨Nat.le_of_ble_eq_true rfl, Nat.le_of_ble_eq_true rfl⟩ (fun w13 H locs hM hw => ?_)
  obtain ⟨hn_p0, hfr⟩ := hw
  have hp_this : At13 G w13 b 0 changes errorAt failedAt isSaved v q13 saved past far scratch best thenX thenY thenMet text line isLeft words wordAt textN hereP endP lineN isWrong isDoing := ⟨hfr.keep (hp_this.1) (by omega), hfr.keep (hp_this.2.1) (by omega), hn_p0, hfr.keep (hp_this.2.2.2.1) (by omega), hfr.keep (hp_this.2.2.2.2.1) (by omega), hfr.keep (hp_this.2.2.2.2.2.1) (by omega), hfr.keep (hp_this.2.2.2.2.2.2.1) (by omega), hfr.keep (hp_this.2.2.2.2.2.2.2.1) (by omega), hfr.keep (hp_this.2.2.2.2.2.2.2.2.1) (by omega), hfr.keep (hp_this.2.2.2.2.2.2.2.2.2.1) (by omega), hfr.keep (hp_this.2.2.2.2.2.2.2.2.2.2.1) (by omega), hfr.keep (hp_this.2.2.2.2.2.2.2.2.2.2.2.1) (by omega), hfr.keep (hp_this.2.2.2.2.2.2.2.2.2.2.2.2) (by omega)⟩
  have hF := hF.tr (hfr.wide (by omega) (by omega))
  cases hf
  exact hret hM dX13_begins_16 ⟨hp_this, hF⟩
def f_X13_ends_L72 (changes : Int32) (before : Nat → Int32) : Nat → (Int32) → (Nat → Int32) → Option (Nat → Int32)
  | 0, _, _ => none
  | n + 1, x2, past => if 238 ≤ x2 then some past else mm_g (mm_ck x2 238) (mm_g (mm_ck ((changes * 238) + x2) 1904) (f_X13_ends_L72 changes before n (x2 + 1) (upd past (((changes * 238) + x2).toNatClampNeg) (before x2.toNatClampNeg))))
def f_X13_ends_L31 : Nat → (Int32) → (Nat → Int32) → Option (Nat → Int32)
  | 0, _, _ => none
  | n + 1, x2, past => if 1666 ≤ x2 then some past else mm_g (mm_ck (x2 + 238) 1904) (mm_g (mm_ck x2 1904) (f_X13_ends_L31 n (x2 + 1) (upd past x2.toNatClampNeg (past (x2 + 238).toNatClampNeg))))
def f_X13_ends (K : Nat) (thrown : Int32) (changes : Int32) (v : Nat → Int32) (before : Nat → Int32) (past : Nat → Int32) (x1 : Int32) : Option (Int32 × Int32 × (Nat → Int32) × (Nat → Int32)) := if thrown = 0 then if changes = 8 then (f_X13_ends_L31 K 0 past).bind fun q31 => (f_X13_ends_L72 (changes - 1) before K 0 q31).bind fun q72 => some (x1, ((changes - 1) + 1), v, q72) else (f_X13_ends_L72 changes before K 0 past).bind fun q72 => some (x1, (changes + 1), v, q72) else (f_X13_lays K v before).bind fun q15 => some (0, changes, q15, past)
set_option maxHeartbeats 4000000 in
set_option maxRecDepth 100000 in
theorem c_X13_ends (l : Launch) {G : mm_G} {K : Nat} {w : va_W} {sz : Nat} {b : Nat} {thrown : Int32} {changes : Int32} {errorAt : Int32} {failedAt : Int32} {isSaved : Int32} {v : Nat → Int32} {before : Nat → Int32} {saved : Nat → Int32} {past : Nat → Int32} {far : Nat → Int32} {scratch : Nat → Int32} {best : Nat → Int32} {thenX : Int32} {thenY : Int32} {thenMet : Int32} {text : Nat → Int32} {line : Nat → Int32} {isLeft : Nat → Int32} {words : Nat → Int32} {wordAt : Nat → Int32} {textN : Int32} {hereP : Int32} {endP : Int32} {lineN : Int32} {isWrong : Int32} {isDoing : Int32} {x1 : Int32} {X : Int32 × Int32 × (Nat → Int32) × (Nat → Int32)} (hf : f_X13_ends K thrown changes v before past x1 = some X) (hp_this : At13 G w b thrown changes errorAt failedAt isSaved v before saved past far scratch best thenX thenY thenMet text line isLeft words wordAt textN hereP endP lineN isWrong isDoing) : Met l yX13_ends (Cond.code yX13_ends cX13_ends 3 (some .int) :: gAll) ({ frames := 1, cells := 0, slots := 0, locals := 22 }) (va_Pc [.ref b, .int x1] (mm_Pre G w sz)) (mm_Qi G w sz (fun r w' => r = X.1 ∧ At13 G w' b thrown X.2.1 errorAt failedAt isSaved X.2.2.1 before saved X.2.2.2 far scratch best thenX thenY thenMet text line isLeft words wordAt textN hereP endP lineN isWrong isDoing ∧ mm_fr w w' b (b + 13))) 0 0 (va_A w sz) := by
  refine mm_headI [.ref b, .int x1] (by decide +kernel) rfl (Nat.le_of_ble_eq_true rfl) ?_
  intro p e s m args below meth c A Q hsz hC hM hret ls hl
  have hx := hC.1.1
  have hb := hC.1.2.1
  have hl : lv_has ls 3 [(0, .ref b), (1, .int x1)] := hl
  have hF : mm_fr w w b (b + 13) := mm_fr.rf
  rw [f_X13_ends] at hf
  refine lv_aload_n hx hb dX13_ends_0 rfl (lv_at hl 0 rfl) ?_
  refine mm_get hC hM (k := 0) hp_this.1 rfl inAX13 (by decide) q7_5 rfl dX13_ends_1 ?_
  refine lv_if_eq (tgt := 20) hx hb dX13_ends_4 (by decide) (fun hcd => ?_) (fun hcd => ?_)
  · rw [if_pos hcd] at hf
    refine lv_aload_n hx hb dX13_ends_20 rfl (lv_at hl 0 rfl) ?_
    refine mm_get hC hM (k := 1) hp_this.1 rfl inAX13 (by decide) q7_6 rfl dX13_ends_21 ?_
    refine lv_bipush (v := 8) hx hb dX13_ends_24 (by decide) ?_
    refine lv_icmp_ne (tgt := 70) hx hb dX13_ends_26 (by decide) (fun hcd => ?_) (fun hcd => ?_)
    · rw [if_neg hcd] at hf
      refine lv_iconst (v := 0) hx hb dX13_ends_70 (by decide) ?_
      refine lv_istore_n (lv' := [(2, .int 0), (0, .ref b), (1, .int x1)]) hx hb dX13_ends_71 rfl hl (by decide) rfl (fun ls hl => ?_)
      have L72 : ∀ (n : Nat) (L72_x2 : Int32) (L72_past : Nat → Int32) (X : Nat → Int32), f_X13_ends_L72 changes before n L72_x2 L72_past = some X → ∀ (L72_w : va_W) (H : Heap) (locs : List Loc), mm_S G A s.heap L72_w H locs → At13 G L72_w b thrown changes errorAt failedAt isSaved v before saved L72_past far scratch best thenX thenY thenMet text line isLeft words wordAt textN hereP endP lineN isWrong isDoing → mm_fr w L72_w b (b + 13) → ∀ (ls : Array Slot), lv_has ls 3 [(0, .ref b), (1, .int x1), (2, .int L72_x2)] → (∀ (w9 : va_W) (H : Heap) (locs : List Loc), mm_S G A s.heap w9 H locs → At13 G w9 b thrown changes errorAt failedAt isSaved v before saved X far scratch best thenX thenY thenMet text line isLeft words wordAt textN hereP endP lineN isWrong isDoing → mm_fr w w9 b (b + 13) → ∀ (ls : Array Slot), lv_has ls 3 [(0, .ref b), (1, .int x1)] → W p l e ({ frames := 1, cells := 0, slots := 0, locals := 22 } : Room) s m args below meth c H locs 0 0 Q (F0 m 106 ls [])) → W p l e ({ frames := 1, cells := 0, slots := 0, locals := 22 } : Room) s m args below meth c H locs 0 0 Q (F0 m 72 ls []) := by
        intro n
        induction n with
        | zero => intro L72_x2 L72_past X hf; cases hf
        | succ n ih =>
          intro L72_x2 L72_past X hf L72_w H locs hM hp_this hF ls hl hk
          rw [f_X13_ends_L72] at hf
          refine lv_iload_n hx hb dX13_ends_72 rfl (lv_at hl 2 rfl) ?_
          refine lv_sipush (v := 238) hx hb dX13_ends_73 (by decide) ?_
          refine lv_icmp_ge (tgt := 106) hx hb dX13_ends_76 (by decide) (fun hcd => ?_) (fun hcd => ?_)
          · rw [if_pos hcd] at hf
            cases hf
            exact hk _ _ _ hM hp_this hF _ (lv_sub hl [0, 1] rfl)
          · rw [if_neg hcd] at hf
            refine lv_aload_n hx hb dX13_ends_79 rfl (lv_at hl 0 rfl) ?_
            refine mm_get hC hM (k := 8) hp_this.1 rfl inAX13 (by decide) q7_13 rfl dX13_ends_80 ?_
            refine lv_aload_n hx hb dX13_ends_83 rfl (lv_at hl 0 rfl) ?_
            refine mm_get hC hM (k := 1) hp_this.1 rfl inAX13 (by decide) q7_6 rfl dX13_ends_84 ?_
            refine lv_sipush (v := 238) hx hb dX13_ends_87 (by decide) ?_
            refine lv_imul hx hb dX13_ends_90 ?_
            refine lv_iload_n hx hb dX13_ends_91 rfl (lv_at hl 2 rfl) ?_
            refine lv_iadd hx hb dX13_ends_92 ?_
            refine lv_aload_n hx hb dX13_ends_93 rfl (lv_at hl 0 rfl) ?_
            refine mm_get hC hM (k := 6) hp_this.1 rfl inAX13 (by decide) q7_11 rfl dX13_ends_94 ?_
            refine lv_iload_n hx hb dX13_ends_97 rfl (lv_at hl 2 rfl) ?_
            obtain ⟨hg98, hf⟩ := mm_gd hf
            refine mm_iald hC hM (hp_this.2.2.1) hg98 dX13_ends_98 ?_
            obtain ⟨hg99, hf⟩ := mm_gd hf
            refine mm_iast hC hM (hp_this.2.2.2.2.1) hg99 dX13_ends_99 (fun w99 H locs hM hm => ?_)
            have hp_this : At13 G w99 b thrown changes errorAt failedAt isSaved v before saved (upd L72_past (((changes * 238) + L72_x2).toNatClampNeg) (before L72_x2.toNatClampNeg)) far scratch best thenX thenY thenMet text line isLeft words wordAt textN hereP endP lineN isWrong isDoing := ⟨hm.keep (hp_this.1) (by omega), hm.keep (hp_this.2.1) (by omega), hm.keep (hp_this.2.2.1) (by omega), hm.keep (hp_this.2.2.2.1) (by omega), hm.1, hm.keep (hp_this.2.2.2.2.2.1) (by omega), hm.keep (hp_this.2.2.2.2.2.2.1) (by omega), hm.keep (hp_this.2.2.2.2.2.2.2.1) (by omega), hm.keep (hp_this.2.2.2.2.2.2.2.2.1) (by omega), hm.keep (hp_this.2.2.2.2.2.2.2.2.2.1) (by omega), hm.keep (hp_this.2.2.2.2.2.2.2.2.2.2.1) (by omega), hm.keep (hp_this.2.2.2.2.2.2.2.2.2.2.2.1) (by omega), hm.keep (hp_this.2.2.2.2.2.2.2.2.2.2.2.2) (by omega)⟩
            have hF := hF.tr (hm.fr (by omega) (by omega))
            refine lv_iinc (v := (L72_x2 + 1)) (lv' := [(2, .int (L72_x2 + 1)), (0, .ref b), (1, .int x1)]) hx hb dX13_ends_100 hl (k := 2) rfl rfl (by decide) rfl (fun ls hl => ?_)
            refine lv_goto (tgt := 72) hx hb dX13_ends_103 (by decide) ?_
            exact ih _ _ _ hf _ _ _ hM hp_this hF _ (lv_sub hl [1, 2, 0] rfl) hk
      obtain ⟨q72, hq72, hf⟩ := mm_bd hf
      refine L72 K _ _ _ hq72 _ _ _ hM hp_this hF _ (lv_sub hl [1, 2, 0] rfl) (fun w72 H locs hM hp_this hF ls hl => ?_)
      refine lv_aload_n hx hb dX13_ends_106 rfl (lv_at hl 0 rfl) ?_
      refine lv_dup hx hb dX13_ends_107 rfl ?_
      refine mm_get hC hM (k := 1) hp_this.1 rfl inAX13 (by decide) q7_6 rfl dX13_ends_108 ?_
      refine lv_iconst (v := 1) hx hb dX13_ends_111 (by decide) ?_
      refine lv_iadd hx hb dX13_ends_112 ?_
      refine mm_put hC hM (k := 1) tyX13 hp_this.1 rfl inAX13 tyX13_ok nmX13 (by decide) q7_6 rfl rfl rfl rfl (Nat.le_of_ble_eq_true rfl) dX13_ends_113 (fun w113 H locs hM hm => ?_)
      have hp_this : At13 G w113 b thrown (changes + 1) errorAt failedAt isSaved v before saved q72 far scratch best thenX thenY thenMet text line isLeft words wordAt textN hereP endP lineN isWrong isDoing := ⟨hm.1, hm.keep (hp_this.2.1) (by omega), hm.keep (hp_this.2.2.1) (by omega), hm.keep (hp_this.2.2.2.1) (by omega), hm.keep (hp_this.2.2.2.2.1) (by omega), hm.keep (hp_this.2.2.2.2.2.1) (by omega), hm.keep (hp_this.2.2.2.2.2.2.1) (by omega), hm.keep (hp_this.2.2.2.2.2.2.2.1) (by omega), hm.keep (hp_this.2.2.2.2.2.2.2.2.1) (by omega), hm.keep (hp_this.2.2.2.2.2.2.2.2.2.1) (by omega), hm.keep (hp_this.2.2.2.2.2.2.2.2.2.2.1) (by omega), hm.keep (hp_this.2.2.2.2.2.2.2.2.2.2.2.1) (by omega), hm.keep (hp_this.2.2.2.2.2.2.2.2.2.2.2.2) (by omega)⟩
      have hF := hF.tr (hm.fr (by omega) (by omega))
      refine lv_iload_n hx hb dX13_ends_116 rfl (lv_at hl 1 rfl) ?_
      cases hf
      exact hret hM dX13_ends_117 rfl ⟨rfl, hp_this, hF⟩
    · rw [if_pos hcd] at hf
      refine lv_iconst (v := 0) hx hb dX13_ends_29 (by decide) ?_
      refine lv_istore_n (lv' := [(2, .int 0), (0, .ref b), (1, .int x1)]) hx hb dX13_ends_30 rfl hl (by decide) rfl (fun ls hl => ?_)
      have L31 : ∀ (n : Nat) (L31_x2 : Int32) (L31_past : Nat → Int32) (X : Nat → Int32), f_X13_ends_L31 n L31_x2 L31_past = some X → ∀ (L31_w : va_W) (H : Heap) (locs : List Loc), mm_S G A s.heap L31_w H locs → At13 G L31_w b thrown changes errorAt failedAt isSaved v before saved L31_past far scratch best thenX thenY thenMet text line isLeft words wordAt textN hereP endP lineN isWrong isDoing → mm_fr w L31_w b (b + 13) → ∀ (ls : Array Slot), lv_has ls 3 [(0, .ref b), (1, .int x1), (2, .int L31_x2)] → (∀ (w9 : va_W) (H : Heap) (locs : List Loc), mm_S G A s.heap w9 H locs → At13 G w9 b thrown changes errorAt failedAt isSaved v before saved X far scratch best thenX thenY thenMet text line isLeft words wordAt textN hereP endP lineN isWrong isDoing → mm_fr w w9 b (b + 13) → ∀ (ls : Array Slot), lv_has ls 3 [(0, .ref b), (1, .int x1)] → W p l e ({ frames := 1, cells := 0, slots := 0, locals := 22 } : Room) s m args below meth c H locs 0 0 Q (F0 m 60 ls [])) → W p l e ({ frames := 1, cells := 0, slots := 0, locals := 22 } : Room) s m args below meth c H locs 0 0 Q (F0 m 31 ls []) := by
        intro n
        induction n with
        | zero => intro L31_x2 L31_past X hf; cases hf
        | succ n ih =>
          intro L31_x2 L31_past X hf L31_w H locs hM hp_this hF ls hl hk
          rw [f_X13_ends_L31] at hf
          refine lv_iload_n hx hb dX13_ends_31 rfl (lv_at hl 2 rfl) ?_
          refine lv_sipush (v := 1666) hx hb dX13_ends_32 (by decide) ?_
          refine lv_icmp_ge (tgt := 60) hx hb dX13_ends_35 (by decide) (fun hcd => ?_) (fun hcd => ?_)
          · rw [if_pos hcd] at hf
            cases hf
            exact hk _ _ _ hM hp_this hF _ (lv_sub hl [0, 1] rfl)
          · rw [if_neg hcd] at hf
            refine lv_aload_n hx hb dX13_ends_38 rfl (lv_at hl 0 rfl) ?_
            refine mm_get hC hM (k := 8) hp_this.1 rfl inAX13 (by decide) q7_13 rfl dX13_ends_39 ?_
            refine lv_iload_n hx hb dX13_ends_42 rfl (lv_at hl 2 rfl) ?_
            refine lv_aload_n hx hb dX13_ends_43 rfl (lv_at hl 0 rfl) ?_
            refine mm_get hC hM (k := 8) hp_this.1 rfl inAX13 (by decide) q7_13 rfl dX13_ends_44 ?_
            refine lv_iload_n hx hb dX13_ends_47 rfl (lv_at hl 2 rfl) ?_
            refine lv_sipush (v := 238) hx hb dX13_ends_48 (by decide) ?_
            refine lv_iadd hx hb dX13_ends_51 ?_
            obtain ⟨hg52, hf⟩ := mm_gd hf
            refine mm_iald hC hM (hp_this.2.2.2.2.1) hg52 dX13_ends_52 ?_
            obtain ⟨hg53, hf⟩ := mm_gd hf
            refine mm_iast hC hM (hp_this.2.2.2.2.1) hg53 dX13_ends_53 (fun w53 H locs hM hm => ?_)
            have hp_this : At13 G w53 b thrown changes errorAt failedAt isSaved v before saved (upd L31_past L31_x2.toNatClampNeg (L31_past (L31_x2 + 238).toNatClampNeg)) far scratch best thenX thenY thenMet text line isLeft words wordAt textN hereP endP lineN isWrong isDoing := ⟨hm.keep (hp_this.1) (by omega), hm.keep (hp_this.2.1) (by omega), hm.keep (hp_this.2.2.1) (by omega), hm.keep (hp_this.2.2.2.1) (by omega), hm.1, hm.keep (hp_this.2.2.2.2.2.1) (by omega), hm.keep (hp_this.2.2.2.2.2.2.1) (by omega), hm.keep (hp_this.2.2.2.2.2.2.2.1) (by omega), hm.keep (hp_this.2.2.2.2.2.2.2.2.1) (by omega), hm.keep (hp_this.2.2.2.2.2.2.2.2.2.1) (by omega), hm.keep (hp_this.2.2.2.2.2.2.2.2.2.2.1) (by omega), hm.keep (hp_this.2.2.2.2.2.2.2.2.2.2.2.1) (by omega), hm.keep (hp_this.2.2.2.2.2.2.2.2.2.2.2.2) (by omega)⟩
            have hF := hF.tr (hm.fr (by omega) (by omega))
            refine lv_iinc (v := (L31_x2 + 1)) (lv' := [(2, .int (L31_x2 + 1)), (0, .ref b), (1, .int x1)]) hx hb dX13_ends_54 hl (k := 2) rfl rfl (by decide) rfl (fun ls hl => ?_)
            refine lv_goto (tgt := 31) hx hb dX13_ends_57 (by decide) ?_
            exact ih _ _ _ hf _ _ _ hM hp_this hF _ (lv_sub hl [1, 2, 0] rfl) hk
      obtain ⟨q31, hq31, hf⟩ := mm_bd hf
      refine L31 K _ _ _ hq31 _ _ _ hM hp_this hF _ (lv_sub hl [1, 2, 0] rfl) (fun w31 H locs hM hp_this hF ls hl => ?_)
      refine lv_aload_n hx hb dX13_ends_60 rfl (lv_at hl 0 rfl) ?_
      refine lv_dup hx hb dX13_ends_61 rfl ?_
      refine mm_get hC hM (k := 1) hp_this.1 rfl inAX13 (by decide) q7_6 rfl dX13_ends_62 ?_
      refine lv_iconst (v := 1) hx hb dX13_ends_65 (by decide) ?_
      refine lv_isub hx hb dX13_ends_66 ?_
      refine mm_put hC hM (k := 1) tyX13 hp_this.1 rfl inAX13 tyX13_ok nmX13 (by decide) q7_6 rfl rfl rfl rfl (Nat.le_of_ble_eq_true rfl) dX13_ends_67 (fun w67 H locs hM hm => ?_)
      have hp_this : At13 G w67 b thrown (changes - 1) errorAt failedAt isSaved v before saved q31 far scratch best thenX thenY thenMet text line isLeft words wordAt textN hereP endP lineN isWrong isDoing := ⟨hm.1, hm.keep (hp_this.2.1) (by omega), hm.keep (hp_this.2.2.1) (by omega), hm.keep (hp_this.2.2.2.1) (by omega), hm.keep (hp_this.2.2.2.2.1) (by omega), hm.keep (hp_this.2.2.2.2.2.1) (by omega), hm.keep (hp_this.2.2.2.2.2.2.1) (by omega), hm.keep (hp_this.2.2.2.2.2.2.2.1) (by omega), hm.keep (hp_this.2.2.2.2.2.2.2.2.1) (by omega), hm.keep (hp_this.2.2.2.2.2.2.2.2.2.1) (by omega), hm.keep (hp_this.2.2.2.2.2.2.2.2.2.2.1) (by omega), hm.keep (hp_this.2.2.2.2.2.2.2.2.2.2.2.1) (by omega), hm.keep (hp_this.2.2.2.2.2.2.2.2.2.2.2.2) (by omega)⟩
      have hF := hF.tr (hm.fr (by omega) (by omega))
      refine lv_iconst (v := 0) hx hb dX13_ends_70 (by decide) ?_
      refine lv_istore_n (lv' := [(2, .int 0), (0, .ref b), (1, .int x1)]) hx hb dX13_ends_71 rfl hl (by decide) rfl (fun ls hl => ?_)
      have L72 : ∀ (n : Nat) (L72_x2 : Int32) (L72_past : Nat → Int32) (X : Nat → Int32), f_X13_ends_L72 (changes - 1) before n L72_x2 L72_past = some X → ∀ (L72_w : va_W) (H : Heap) (locs : List Loc), mm_S G A s.heap L72_w H locs → At13 G L72_w b thrown (changes - 1) errorAt failedAt isSaved v before saved L72_past far scratch best thenX thenY thenMet text line isLeft words wordAt textN hereP endP lineN isWrong isDoing → mm_fr w L72_w b (b + 13) → ∀ (ls : Array Slot), lv_has ls 3 [(0, .ref b), (1, .int x1), (2, .int L72_x2)] → (∀ (w9 : va_W) (H : Heap) (locs : List Loc), mm_S G A s.heap w9 H locs → At13 G w9 b thrown (changes - 1) errorAt failedAt isSaved v before saved X far scratch best thenX thenY thenMet text line isLeft words wordAt textN hereP endP lineN isWrong isDoing → mm_fr w w9 b (b + 13) → ∀ (ls : Array Slot), lv_has ls 3 [(0, .ref b), (1, .int x1)] → W p l e ({ frames := 1, cells := 0, slots := 0, locals := 22 } : Room) s m args below meth c H locs 0 0 Q (F0 m 106 ls [])) → W p l e ({ frames := 1, cells := 0, slots := 0, locals := 22 } : Room) s m args below meth c H locs 0 0 Q (F0 m 72 ls []) := by
        intro n
        induction n with
        | zero => intro L72_x2 L72_past X hf; cases hf
        | succ n ih =>
          intro L72_x2 L72_past X hf L72_w H locs hM hp_this hF ls hl hk
          rw [f_X13_ends_L72] at hf
          refine lv_iload_n hx hb dX13_ends_72 rfl (lv_at hl 2 rfl) ?_
          refine lv_sipush (v := 238) hx hb dX13_ends_73 (by decide) ?_
          refine lv_icmp_ge (tgt := 106) hx hb dX13_ends_76 (by decide) (fun hcd => ?_) (fun hcd => ?_)
          · rw [if_pos hcd] at hf
            cases hf
            exact hk _ _ _ hM hp_this hF _ (lv_sub hl [0, 1] rfl)
          · rw [if_neg hcd] at hf
            refine lv_aload_n hx hb dX13_ends_79 rfl (lv_at hl 0 rfl) ?_
            refine mm_get hC hM (k := 8) hp_this.1 rfl inAX13 (by decide) q7_13 rfl dX13_ends_80 ?_
            refine lv_aload_n hx hb dX13_ends_83 rfl (lv_at hl 0 rfl) ?_
            refine mm_get hC hM (k := 1) hp_this.1 rfl inAX13 (by decide) q7_6 rfl dX13_ends_84 ?_
            refine lv_sipush (v := 238) hx hb dX13_ends_87 (by decide) ?_
            refine lv_imul hx hb dX13_ends_90 ?_
            refine lv_iload_n hx hb dX13_ends_91 rfl (lv_at hl 2 rfl) ?_
            refine lv_iadd hx hb dX13_ends_92 ?_
            refine lv_aload_n hx hb dX13_ends_93 rfl (lv_at hl 0 rfl) ?_
            refine mm_get hC hM (k := 6) hp_this.1 rfl inAX13 (by decide) q7_11 rfl dX13_ends_94 ?_
            refine lv_iload_n hx hb dX13_ends_97 rfl (lv_at hl 2 rfl) ?_
            obtain ⟨hg98, hf⟩ := mm_gd hf
            refine mm_iald hC hM (hp_this.2.2.1) hg98 dX13_ends_98 ?_
            obtain ⟨hg99, hf⟩ := mm_gd hf
            refine mm_iast hC hM (hp_this.2.2.2.2.1) hg99 dX13_ends_99 (fun w99 H locs hM hm => ?_)
            have hp_this : At13 G w99 b thrown (changes - 1) errorAt failedAt isSaved v before saved (upd L72_past ((((changes - 1) * 238) + L72_x2).toNatClampNeg) (before L72_x2.toNatClampNeg)) far scratch best thenX thenY thenMet text line isLeft words wordAt textN hereP endP lineN isWrong isDoing := ⟨hm.keep (hp_this.1) (by omega), hm.keep (hp_this.2.1) (by omega), hm.keep (hp_this.2.2.1) (by omega), hm.keep (hp_this.2.2.2.1) (by omega), hm.1, hm.keep (hp_this.2.2.2.2.2.1) (by omega), hm.keep (hp_this.2.2.2.2.2.2.1) (by omega), hm.keep (hp_this.2.2.2.2.2.2.2.1) (by omega), hm.keep (hp_this.2.2.2.2.2.2.2.2.1) (by omega), hm.keep (hp_this.2.2.2.2.2.2.2.2.2.1) (by omega), hm.keep (hp_this.2.2.2.2.2.2.2.2.2.2.1) (by omega), hm.keep (hp_this.2.2.2.2.2.2.2.2.2.2.2.1) (by omega), hm.keep (hp_this.2.2.2.2.2.2.2.2.2.2.2.2) (by omega)⟩
            have hF := hF.tr (hm.fr (by omega) (by omega))
            refine lv_iinc (v := (L72_x2 + 1)) (lv' := [(2, .int (L72_x2 + 1)), (0, .ref b), (1, .int x1)]) hx hb dX13_ends_100 hl (k := 2) rfl rfl (by decide) rfl (fun ls hl => ?_)
            refine lv_goto (tgt := 72) hx hb dX13_ends_103 (by decide) ?_
            exact ih _ _ _ hf _ _ _ hM hp_this hF _ (lv_sub hl [1, 2, 0] rfl) hk
      obtain ⟨q72, hq72, hf⟩ := mm_bd hf
      refine L72 K _ _ _ hq72 _ _ _ hM hp_this hF _ (lv_sub hl [1, 2, 0] rfl) (fun w72 H locs hM hp_this hF ls hl => ?_)
      refine lv_aload_n hx hb dX13_ends_106 rfl (lv_at hl 0 rfl) ?_
      refine lv_dup hx hb dX13_ends_107 rfl ?_
      refine mm_get hC hM (k := 1) hp_this.1 rfl inAX13 (by decide) q7_6 rfl dX13_ends_108 ?_
      refine lv_iconst (v := 1) hx hb dX13_ends_111 (by decide) ?_
      refine lv_iadd hx hb dX13_ends_112 ?_
      refine mm_put hC hM (k := 1) tyX13 hp_this.1 rfl inAX13 tyX13_ok nmX13 (by decide) q7_6 rfl rfl rfl rfl (Nat.le_of_ble_eq_true rfl) dX13_ends_113 (fun w113 H locs hM hm => ?_)
      have hp_this : At13 G w113 b thrown ((changes - 1) + 1) errorAt failedAt isSaved v before saved q72 far scratch best thenX thenY thenMet text line isLeft words wordAt textN hereP endP lineN isWrong isDoing := ⟨hm.1, hm.keep (hp_this.2.1) (by omega), hm.keep (hp_this.2.2.1) (by omega), hm.keep (hp_this.2.2.2.1) (by omega), hm.keep (hp_this.2.2.2.2.1) (by omega), hm.keep (hp_this.2.2.2.2.2.1) (by omega), hm.keep (hp_this.2.2.2.2.2.2.1) (by omega), hm.keep (hp_this.2.2.2.2.2.2.2.1) (by omega), hm.keep (hp_this.2.2.2.2.2.2.2.2.1) (by omega), hm.keep (hp_this.2.2.2.2.2.2.2.2.2.1) (by omega), hm.keep (hp_this.2.2.2.2.2.2.2.2.2.2.1) (by omega), hm.keep (hp_this.2.2.2.2.2.2.2.2.2.2.2.1) (by omega), hm.keep (hp_this.2.2.2.2.2.2.2.2.2.2.2.2) (by omega)⟩
      have hF := hF.tr (hm.fr (by omega) (by omega))
      refine lv_iload_n hx hb dX13_ends_116 rfl (lv_at hl 1 rfl) ?_
      cases hf
      exact hret hM dX13_ends_117 rfl ⟨rfl, hp_this, hF⟩
  · rw [if_neg hcd] at hf
    refine lv_aload_n hx hb dX13_ends_7 rfl (lv_at hl 0 rfl) ?_
    refine mm_get hC hM (k := 5) hp_this.1 rfl inAX13 (by decide) q7_10 rfl dX13_ends_8 ?_
    refine lv_aload_n hx hb dX13_ends_11 rfl (lv_at hl 0 rfl) ?_
    refine mm_get hC hM (k := 6) hp_this.1 rfl inAX13 (by decide) q7_11 rfl dX13_ends_12 ?_
    obtain ⟨q15, hq15, hf⟩ := mm_bd hf
    refine mm_Sv (rest := []) hC hM (c_X13_lays l hq15 (hp_this.2.1) (hp_this.2.2.1) (by omega)) q7_98 q1_12 ykX13_lays q7_96 q7_97 ⟨rfl, rfl⟩ ⟨Nat.le_of_ble_eq_true rfl, Nat.le_of_ble_eq_true rfl⟩ rfl hl.1 rfl (Nat.le_of_ble_eq_true rfl) dX13_ends_15 ⟨Nat.le_of_ble_eq_true rfl, Nat.le_of_ble_eq_true rfl⟩ (fun w15 H locs hM hw => ?_)
    obtain ⟨hn_p0, hfr⟩ := hw
    have hp_this : At13 G w15 b thrown changes errorAt failedAt isSaved q15 before saved past far scratch best thenX thenY thenMet text line isLeft words wordAt textN hereP endP lineN isWrong isDoing := ⟨hfr.keep (hp_this.1) (by omega), hn_p0, hfr.keep (hp_this.2.2.1) (by omega), hfr.keep (hp_this.2.2.2.1) (by omega), hfr.keep (hp_this.2.2.2.2.1) (by omega), hfr.keep (hp_this.2.2.2.2.2.1) (by omega), hfr.keep (hp_this.2.2.2.2.2.2.1) (by omega), hfr.keep (hp_this.2.2.2.2.2.2.2.1) (by omega), hfr.keep (hp_this.2.2.2.2.2.2.2.2.1) (by omega), hfr.keep (hp_this.2.2.2.2.2.2.2.2.2.1) (by omega), hfr.keep (hp_this.2.2.2.2.2.2.2.2.2.2.1) (by omega), hfr.keep (hp_this.2.2.2.2.2.2.2.2.2.2.2.1) (by omega), hfr.keep (hp_this.2.2.2.2.2.2.2.2.2.2.2.2) (by omega)⟩
    have hF := hF.tr (hfr.wide (by omega) (by omega))
    refine lv_iconst (v := 0) hx hb dX13_ends_18 (by decide) ?_
    cases hf
    exact hret hM dX13_ends_19 rfl ⟨rfl, hp_this, hF⟩
def f_X13_isCell (x0 : Int32) (x1 : Int32) : Option (Int32) := (f_X13_isIn x0 0 8).bind fun q4 => if q4 = 0 then some 0 else (f_X13_isIn x1 0 8).bind fun q14 => if q14 = 0 then some 0 else some 1
set_option maxHeartbeats 4000000 in
set_option maxRecDepth 100000 in
theorem c_X13_isCell (l : Launch) {G : mm_G} {w : va_W} {sz : Nat} {x0 : Int32} {x1 : Int32} {X : Int32} (hf : f_X13_isCell x0 x1 = some X) : Met l yX13_isCell (Cond.code yX13_isCell cX13_isCell 2 (some .boolean) :: gAll) ({ frames := 1, cells := 0, slots := 0, locals := 22 }) (va_Pc [.int x0, .int x1] (mm_Pre G w sz)) (mm_Qi G w sz (fun r w' => r = X ∧ w' = w)) 0 0 (va_A w sz) := by
  refine mm_headI [.int x0, .int x1] (by decide +kernel) rfl (Nat.le_of_ble_eq_true rfl) ?_
  intro p e s m args below meth c A Q hsz hC hM hret ls hl
  have hx := hC.1.1
  have hb := hC.1.2.1
  have hl : lv_has ls 2 [(0, .int x0), (1, .int x1)] := hl
  rw [f_X13_isCell] at hf
  refine lv_iload_n hx hb dX13_isCell_0 rfl (lv_at hl 0 rfl) ?_
  refine lv_iconst (v := 0) hx hb dX13_isCell_1 (by decide) ?_
  refine lv_bipush (v := 8) hx hb dX13_isCell_2 (by decide) ?_
  obtain ⟨q4, hq4, hf⟩ := mm_bd hf
  refine mm_Si (rest := []) hC hM (c_X13_isIn l hq4) q7_108 q1_12 ykX13_isIn q7_106 q7_107 ⟨rfl, rfl⟩ ⟨Nat.le_of_ble_eq_true rfl, Nat.le_of_ble_eq_true rfl⟩ rfl hl.1 rfl (Nat.le_of_ble_eq_true rfl) dX13_isCell_4 ⟨Nat.le_of_ble_eq_true rfl, Nat.le_of_ble_eq_true rfl⟩ (fun r w4 H locs hM hw => ?_)
  obtain ⟨hr, hw⟩ := hw
  rw [hr]
  rw [hw] at hM
  refine lv_if_eq (tgt := 24) hx hb dX13_isCell_7 (by decide) (fun hcd => ?_) (fun hcd => ?_)
  · rw [if_pos hcd] at hf
    refine lv_iconst (v := 0) hx hb dX13_isCell_24 (by decide) ?_
    cases hf
    exact hret hM dX13_isCell_25 rfl ⟨rfl, rfl⟩
  · rw [if_neg hcd] at hf
    refine lv_iload_n hx hb dX13_isCell_10 rfl (lv_at hl 1 rfl) ?_
    refine lv_iconst (v := 0) hx hb dX13_isCell_11 (by decide) ?_
    refine lv_bipush (v := 8) hx hb dX13_isCell_12 (by decide) ?_
    obtain ⟨q14, hq14, hf⟩ := mm_bd hf
    refine mm_Si (rest := []) hC hM (c_X13_isIn l hq14) q7_108 q1_12 ykX13_isIn q7_106 q7_107 ⟨rfl, rfl⟩ ⟨Nat.le_of_ble_eq_true rfl, Nat.le_of_ble_eq_true rfl⟩ rfl hl.1 rfl (Nat.le_of_ble_eq_true rfl) dX13_isCell_14 ⟨Nat.le_of_ble_eq_true rfl, Nat.le_of_ble_eq_true rfl⟩ (fun r w14 H locs hM hw => ?_)
    obtain ⟨hr, hw⟩ := hw
    rw [hr]
    rw [hw] at hM
    refine lv_if_eq (tgt := 24) hx hb dX13_isCell_17 (by decide) (fun hcd => ?_) (fun hcd => ?_)
    · rw [if_pos hcd] at hf
      refine lv_iconst (v := 0) hx hb dX13_isCell_24 (by decide) ?_
      cases hf
      exact hret hM dX13_isCell_25 rfl ⟨rfl, rfl⟩
    · rw [if_neg hcd] at hf
      refine lv_iconst (v := 1) hx hb dX13_isCell_20 (by decide) ?_
      refine lv_goto (tgt := 25) hx hb dX13_isCell_21 (by decide) ?_
      cases hf
      exact hret hM dX13_isCell_25 rfl ⟨rfl, rfl⟩
def f_X13_cell (x0 : Int32) (x1 : Int32) : Option (Int32) := some ((9 * x1) + x0)
set_option maxHeartbeats 4000000 in
set_option maxRecDepth 100000 in
theorem c_X13_cell (l : Launch) {G : mm_G} {w : va_W} {sz : Nat} {x0 : Int32} {x1 : Int32} {X : Int32} (hf : f_X13_cell x0 x1 = some X) : Met l yX13_cell (Cond.code yX13_cell cX13_cell 2 (some .int) :: gAll) ({ frames := 0, cells := 0, slots := 0, locals := 0 }) (va_Pc [.int x0, .int x1] (mm_Pre G w sz)) (mm_Qi G w sz (fun r w' => r = X ∧ w' = w)) 0 0 (va_A w sz) := by
  refine mm_headI [.int x0, .int x1] (by decide +kernel) rfl (Nat.le_of_ble_eq_true rfl) ?_
  intro p e s m args below meth c A Q hsz hC hM hret ls hl
  have hx := hC.1.1
  have hb := hC.1.2.1
  have hl : lv_has ls 2 [(0, .int x0), (1, .int x1)] := hl
  rw [f_X13_cell] at hf
  refine lv_bipush (v := 9) hx hb dX13_cell_0 (by decide) ?_
  refine lv_iload_n hx hb dX13_cell_2 rfl (lv_at hl 1 rfl) ?_
  refine lv_imul hx hb dX13_cell_3 ?_
  refine lv_iload_n hx hb dX13_cell_4 rfl (lv_at hl 0 rfl) ?_
  refine lv_iadd hx hb dX13_cell_5 ?_
  cases hf
  exact hret hM dX13_cell_6 rfl ⟨rfl, rfl⟩
def f_X13_image (x0 : Int32) : Option (Int32) := some ((((x0 - (x0 - x0 / 9 * 9)) + 9) - 1) - (x0 - x0 / 9 * 9))
set_option maxHeartbeats 4000000 in
set_option maxRecDepth 100000 in
theorem c_X13_image (l : Launch) {G : mm_G} {w : va_W} {sz : Nat} {x0 : Int32} {X : Int32} (hf : f_X13_image x0 = some X) : Met l yX13_image (Cond.code yX13_image cX13_image 1 (some .int) :: gAll) ({ frames := 0, cells := 0, slots := 0, locals := 0 }) (va_Pc [.int x0] (mm_Pre G w sz)) (mm_Qi G w sz (fun r w' => r = X ∧ w' = w)) 0 0 (va_A w sz) := by
  refine mm_headI [.int x0] (by decide +kernel) rfl (Nat.le_of_ble_eq_true rfl) ?_
  intro p e s m args below meth c A Q hsz hC hM hret ls hl
  have hx := hC.1.1
  have hb := hC.1.2.1
  have hl : lv_has ls 1 [(0, .int x0)] := hl
  rw [f_X13_image] at hf
  refine lv_iload_n hx hb dX13_image_0 rfl (lv_at hl 0 rfl) ?_
  refine lv_iload_n hx hb dX13_image_1 rfl (lv_at hl 0 rfl) ?_
  refine lv_bipush (v := 9) hx hb dX13_image_2 (by decide) ?_
  refine lv_irem hx hb dX13_image_4 (by decide) ?_
  refine lv_isub hx hb dX13_image_5 ?_
  refine lv_bipush (v := 9) hx hb dX13_image_6 (by decide) ?_
  refine lv_iadd hx hb dX13_image_8 ?_
  refine lv_iconst (v := 1) hx hb dX13_image_9 (by decide) ?_
  refine lv_isub hx hb dX13_image_10 ?_
  refine lv_iload_n hx hb dX13_image_11 rfl (lv_at hl 0 rfl) ?_
  refine lv_bipush (v := 9) hx hb dX13_image_12 (by decide) ?_
  refine lv_irem hx hb dX13_image_14 (by decide) ?_
  refine lv_isub hx hb dX13_image_15 ?_
  cases hf
  exact hret hM dX13_image_16 rfl ⟨rfl, rfl⟩
def f_X13_stands (v : Nat → Int32) (x1 : Int32) : Option (Int32) := mm_g (mm_ck (7 + x1) 238) (if (v (7 + x1).toNatClampNeg) = 1 then some 1 else some 0)
set_option maxHeartbeats 4000000 in
set_option maxRecDepth 100000 in
theorem c_X13_stands (l : Launch) {G : mm_G} {w : va_W} {sz : Nat} {b : Nat} {thrown : Int32} {changes : Int32} {errorAt : Int32} {failedAt : Int32} {isSaved : Int32} {v : Nat → Int32} {before : Nat → Int32} {saved : Nat → Int32} {past : Nat → Int32} {far : Nat → Int32} {scratch : Nat → Int32} {best : Nat → Int32} {thenX : Int32} {thenY : Int32} {thenMet : Int32} {text : Nat → Int32} {line : Nat → Int32} {isLeft : Nat → Int32} {words : Nat → Int32} {wordAt : Nat → Int32} {textN : Int32} {hereP : Int32} {endP : Int32} {lineN : Int32} {isWrong : Int32} {isDoing : Int32} {x1 : Int32} {X : Int32} (hf : f_X13_stands v x1 = some X) (hp_this : At13 G w b thrown changes errorAt failedAt isSaved v before saved past far scratch best thenX thenY thenMet text line isLeft words wordAt textN hereP endP lineN isWrong isDoing) : Met l yX13_stands (Cond.code yX13_stands cX13_stands 2 (some .int) :: gAll) ({ frames := 0, cells := 0, slots := 0, locals := 0 }) (va_Pc [.ref b, .int x1] (mm_Pre G w sz)) (mm_Qi G w sz (fun r w' => r = X ∧ w' = w)) 0 0 (va_A w sz) := by
  refine mm_headI [.ref b, .int x1] (by decide +kernel) rfl (Nat.le_of_ble_eq_true rfl) ?_
  intro p e s m args below meth c A Q hsz hC hM hret ls hl
  have hx := hC.1.1
  have hb := hC.1.2.1
  have hl : lv_has ls 2 [(0, .ref b), (1, .int x1)] := hl
  rw [f_X13_stands] at hf
  refine lv_aload_n hx hb dX13_stands_0 rfl (lv_at hl 0 rfl) ?_
  refine mm_get hC hM (k := 5) hp_this.1 rfl inAX13 (by decide) q7_10 rfl dX13_stands_1 ?_
  refine lv_bipush (v := 7) hx hb dX13_stands_4 (by decide) ?_
  refine lv_iload_n hx hb dX13_stands_6 rfl (lv_at hl 1 rfl) ?_
  refine lv_iadd hx hb dX13_stands_7 ?_
  obtain ⟨hg8, hf⟩ := mm_gd hf
  refine mm_iald hC hM (hp_this.2.1) hg8 dX13_stands_8 ?_
  refine lv_iconst (v := 1) hx hb dX13_stands_9 (by decide) ?_
  refine lv_icmp_ne (tgt := 17) hx hb dX13_stands_10 (by decide) (fun hcd => ?_) (fun hcd => ?_)
  · rw [if_neg hcd] at hf
    refine lv_iconst (v := 0) hx hb dX13_stands_17 (by decide) ?_
    cases hf
    exact hret hM dX13_stands_18 rfl ⟨rfl, rfl⟩
  · rw [if_pos hcd] at hf
    refine lv_iconst (v := 1) hx hb dX13_stands_13 (by decide) ?_
    refine lv_goto (tgt := 18) hx hb dX13_stands_14 (by decide) ?_
    cases hf
    exact hret hM dX13_stands_18 rfl ⟨rfl, rfl⟩
def f_X13_isFree (v : Nat → Int32) (x1 : Int32) : Option (Int32) := (f_X13_stands v x1).bind fun q2 => (f_X13_image x1).bind fun q7 => (f_X13_stands v q7).bind fun q10 => if (q2 + q10) = 0 then some 1 else some 0
set_option maxHeartbeats 4000000 in
set_option maxRecDepth 100000 in
theorem c_X13_isFree (l : Launch) {G : mm_G} {w : va_W} {sz : Nat} {b : Nat} {thrown : Int32} {changes : Int32} {errorAt : Int32} {failedAt : Int32} {isSaved : Int32} {v : Nat → Int32} {before : Nat → Int32} {saved : Nat → Int32} {past : Nat → Int32} {far : Nat → Int32} {scratch : Nat → Int32} {best : Nat → Int32} {thenX : Int32} {thenY : Int32} {thenMet : Int32} {text : Nat → Int32} {line : Nat → Int32} {isLeft : Nat → Int32} {words : Nat → Int32} {wordAt : Nat → Int32} {textN : Int32} {hereP : Int32} {endP : Int32} {lineN : Int32} {isWrong : Int32} {isDoing : Int32} {x1 : Int32} {X : Int32} (hf : f_X13_isFree v x1 = some X) (hp_this : At13 G w b thrown changes errorAt failedAt isSaved v before saved past far scratch best thenX thenY thenMet text line isLeft words wordAt textN hereP endP lineN isWrong isDoing) : Met l yX13_isFree (Cond.code yX13_isFree cX13_isFree 2 (some .boolean) :: gAll) ({ frames := 1, cells := 0, slots := 0, locals := 21 }) (va_Pc [.ref b, .int x1] (mm_Pre G w sz)) (mm_Qi G w sz (fun r w' => r = X ∧ w' = w)) 0 0 (va_A w sz) := by
  refine mm_headI [.ref b, .int x1] (by decide +kernel) rfl (Nat.le_of_ble_eq_true rfl) ?_
  intro p e s m args below meth c A Q hsz hC hM hret ls hl
  have hx := hC.1.1
  have hb := hC.1.2.1
  have hl : lv_has ls 2 [(0, .ref b), (1, .int x1)] := hl
  rw [f_X13_isFree] at hf
  refine lv_aload_n hx hb dX13_isFree_0 rfl (lv_at hl 0 rfl) ?_
  refine lv_iload_n hx hb dX13_isFree_1 rfl (lv_at hl 1 rfl) ?_
  obtain ⟨q2, hq2, hf⟩ := mm_bd hf
  refine mm_Vi (rest := []) hC hM (c_X13_stands l hq2 hp_this) q7_169 q1_12 ykX13_stands q7_166 q7_168 qp_0c8d64ed hp_this.1 rfl ⟨rfl, rfl⟩ ⟨Nat.le_of_ble_eq_true rfl, Nat.le_of_ble_eq_true rfl⟩ rfl hl.1 rfl (Nat.le_of_ble_eq_true rfl) dX13_isFree_2 ⟨Nat.le_of_ble_eq_true rfl, Nat.le_of_ble_eq_true rfl⟩ (fun r w2 H locs hM hw => ?_)
  obtain ⟨hr, hw⟩ := hw
  rw [hr]
  rw [hw] at hM
  refine lv_aload_n hx hb dX13_isFree_5 rfl (lv_at hl 0 rfl) ?_
  refine lv_iload_n hx hb dX13_isFree_6 rfl (lv_at hl 1 rfl) ?_
  obtain ⟨q7, hq7, hf⟩ := mm_bd hf
  refine mm_Si (rest := [.ref b, .int q2]) hC hM (c_X13_image l hq7) q7_129 q1_12 ykX13_image q7_127 q7_128 ⟨rfl, rfl⟩ ⟨Nat.le_of_ble_eq_true rfl, Nat.le_of_ble_eq_true rfl⟩ rfl hl.1 rfl (Nat.le_of_ble_eq_true rfl) dX13_isFree_7 ⟨Nat.le_of_ble_eq_true rfl, Nat.le_of_ble_eq_true rfl⟩ (fun r w7 H locs hM hw => ?_)
  obtain ⟨hr, hw⟩ := hw
  rw [hr]
  rw [hw] at hM
  obtain ⟨q10, hq10, hf⟩ := mm_bd hf
  refine mm_Vi (rest := [.int q2]) hC hM (c_X13_stands l hq10 hp_this) q7_169 q1_12 ykX13_stands q7_166 q7_168 qp_0c8d64ed hp_this.1 rfl ⟨rfl, rfl⟩ ⟨Nat.le_of_ble_eq_true rfl, Nat.le_of_ble_eq_true rfl⟩ rfl hl.1 rfl (Nat.le_of_ble_eq_true rfl) dX13_isFree_10 ⟨Nat.le_of_ble_eq_true rfl, Nat.le_of_ble_eq_true rfl⟩ (fun r w10 H locs hM hw => ?_)
  obtain ⟨hr, hw⟩ := hw
  rw [hr]
  rw [hw] at hM
  refine lv_iadd hx hb dX13_isFree_13 ?_
  refine lv_if_ne (tgt := 21) hx hb dX13_isFree_14 (by decide) (fun hcd => ?_) (fun hcd => ?_)
  · rw [if_neg hcd] at hf
    refine lv_iconst (v := 0) hx hb dX13_isFree_21 (by decide) ?_
    cases hf
    exact hret hM dX13_isFree_22 rfl ⟨rfl, rfl⟩
  · rw [if_pos hcd] at hf
    refine lv_iconst (v := 1) hx hb dX13_isFree_17 (by decide) ?_
    refine lv_goto (tgt := 22) hx hb dX13_isFree_18 (by decide) ?_
    cases hf
    exact hret hM dX13_isFree_22 rfl ⟨rfl, rfl⟩
def f_X13_of (x0 : Int32) (x1 : Int32) : Option (Int32) := some ((88 + (4 * x0)) + x1)
set_option maxHeartbeats 4000000 in
set_option maxRecDepth 100000 in
theorem c_X13_of (l : Launch) {G : mm_G} {w : va_W} {sz : Nat} {x0 : Int32} {x1 : Int32} {X : Int32} (hf : f_X13_of x0 x1 = some X) : Met l yX13_of (Cond.code yX13_of cX13_of 2 (some .int) :: gAll) ({ frames := 0, cells := 0, slots := 0, locals := 0 }) (va_Pc [.int x0, .int x1] (mm_Pre G w sz)) (mm_Qi G w sz (fun r w' => r = X ∧ w' = w)) 0 0 (va_A w sz) := by
  refine mm_headI [.int x0, .int x1] (by decide +kernel) rfl (Nat.le_of_ble_eq_true rfl) ?_
  intro p e s m args below meth c A Q hsz hC hM hret ls hl
  have hx := hC.1.1
  have hb := hC.1.2.1
  have hl : lv_has ls 2 [(0, .int x0), (1, .int x1)] := hl
  rw [f_X13_of] at hf
  refine lv_bipush (v := 88) hx hb dX13_of_0 (by decide) ?_
  refine lv_iconst (v := 4) hx hb dX13_of_2 (by decide) ?_
  refine lv_iload_n hx hb dX13_of_3 rfl (lv_at hl 0 rfl) ?_
  refine lv_imul hx hb dX13_of_4 ?_
  refine lv_iadd hx hb dX13_of_5 ?_
  refine lv_iload_n hx hb dX13_of_6 rfl (lv_at hl 1 rfl) ?_
  refine lv_iadd hx hb dX13_of_7 ?_
  cases hf
  exact hret hM dX13_of_8 rfl ⟨rfl, rfl⟩
def f_X13_where (v : Nat → Int32) (x1 : Int32) : Option (Int32) := (f_X13_of x1 1).bind fun q6 => mm_g (mm_ck q6 238) ((f_X13_of x1 2).bind fun q16 => mm_g (mm_ck q16 238) ((f_X13_cell (v q6.toNatClampNeg) (v q16.toNatClampNeg)).bind fun q20 => some q20))
set_option maxHeartbeats 4000000 in
set_option maxRecDepth 100000 in
theorem c_X13_where (l : Launch) {G : mm_G} {w : va_W} {sz : Nat} {b : Nat} {thrown : Int32} {changes : Int32} {errorAt : Int32} {failedAt : Int32} {isSaved : Int32} {v : Nat → Int32} {before : Nat → Int32} {saved : Nat → Int32} {past : Nat → Int32} {far : Nat → Int32} {scratch : Nat → Int32} {best : Nat → Int32} {thenX : Int32} {thenY : Int32} {thenMet : Int32} {text : Nat → Int32} {line : Nat → Int32} {isLeft : Nat → Int32} {words : Nat → Int32} {wordAt : Nat → Int32} {textN : Int32} {hereP : Int32} {endP : Int32} {lineN : Int32} {isWrong : Int32} {isDoing : Int32} {x1 : Int32} {X : Int32} (hf : f_X13_where v x1 = some X) (hp_this : At13 G w b thrown changes errorAt failedAt isSaved v before saved past far scratch best thenX thenY thenMet text line isLeft words wordAt textN hereP endP lineN isWrong isDoing) : Met l yX13_where (Cond.code yX13_where cX13_where 2 (some .int) :: gAll) ({ frames := 1, cells := 0, slots := 0, locals := 21 }) (va_Pc [.ref b, .int x1] (mm_Pre G w sz)) (mm_Qi G w sz (fun r w' => r = X ∧ w' = w)) 0 0 (va_A w sz) := by
  refine mm_headI [.ref b, .int x1] (by decide +kernel) rfl (Nat.le_of_ble_eq_true rfl) ?_
  intro p e s m args below meth c A Q hsz hC hM hret ls hl
  have hx := hC.1.1
  have hb := hC.1.2.1
  have hl : lv_has ls 2 [(0, .ref b), (1, .int x1)] := hl
  rw [f_X13_where] at hf
  refine lv_aload_n hx hb dX13_where_0 rfl (lv_at hl 0 rfl) ?_
  refine mm_get hC hM (k := 5) hp_this.1 rfl inAX13 (by decide) q7_10 rfl dX13_where_1 ?_
  refine lv_iload_n hx hb dX13_where_4 rfl (lv_at hl 1 rfl) ?_
  refine lv_iconst (v := 1) hx hb dX13_where_5 (by decide) ?_
  obtain ⟨q6, hq6, hf⟩ := mm_bd hf
  refine mm_Si (rest := [.ref (b + 1)]) hC hM (c_X13_of l hq6) q7_126 q1_12 ykX13_of q7_124 q7_125 ⟨rfl, rfl⟩ ⟨Nat.le_of_ble_eq_true rfl, Nat.le_of_ble_eq_true rfl⟩ rfl hl.1 rfl (Nat.le_of_ble_eq_true rfl) dX13_where_6 ⟨Nat.le_of_ble_eq_true rfl, Nat.le_of_ble_eq_true rfl⟩ (fun r w6 H locs hM hw => ?_)
  obtain ⟨hr, hw⟩ := hw
  rw [hr]
  rw [hw] at hM
  obtain ⟨hg9, hf⟩ := mm_gd hf
  refine mm_iald hC hM (hp_this.2.1) hg9 dX13_where_9 ?_
  refine lv_aload_n hx hb dX13_where_10 rfl (lv_at hl 0 rfl) ?_
  refine mm_get hC hM (k := 5) hp_this.1 rfl inAX13 (by decide) q7_10 rfl dX13_where_11 ?_
  refine lv_iload_n hx hb dX13_where_14 rfl (lv_at hl 1 rfl) ?_
  refine lv_iconst (v := 2) hx hb dX13_where_15 (by decide) ?_
  obtain ⟨q16, hq16, hf⟩ := mm_bd hf
  refine mm_Si (rest := [.ref (b + 1), .int (v q6.toNatClampNeg)]) hC hM (c_X13_of l hq16) q7_126 q1_12 ykX13_of q7_124 q7_125 ⟨rfl, rfl⟩ ⟨Nat.le_of_ble_eq_true rfl, Nat.le_of_ble_eq_true rfl⟩ rfl hl.1 rfl (Nat.le_of_ble_eq_true rfl) dX13_where_16 ⟨Nat.le_of_ble_eq_true rfl, Nat.le_of_ble_eq_true rfl⟩ (fun r w16 H locs hM hw => ?_)
  obtain ⟨hr, hw⟩ := hw
  rw [hr]
  rw [hw] at hM
  obtain ⟨hg19, hf⟩ := mm_gd hf
  refine mm_iald hC hM (hp_this.2.1) hg19 dX13_where_19 ?_
  obtain ⟨q20, hq20, hf⟩ := mm_bd hf
  refine mm_Si (rest := []) hC hM (c_X13_cell l hq20) q7_115 q1_12 ykX13_cell q7_113 q7_114 ⟨rfl, rfl⟩ ⟨Nat.le_of_ble_eq_true rfl, Nat.le_of_ble_eq_true rfl⟩ rfl hl.1 rfl (Nat.le_of_ble_eq_true rfl) dX13_where_20 ⟨Nat.le_of_ble_eq_true rfl, Nat.le_of_ble_eq_true rfl⟩ (fun r w20 H locs hM hw => ?_)
  obtain ⟨hr, hw⟩ := hw
  rw [hr]
  rw [hw] at hM
  cases hf
  exact hret hM dX13_where_23 rfl ⟨rfl, rfl⟩
def f_X13_isTaken_L2 (v : Nat → Int32) (x1 : Int32) (x2 : Int32) : Nat → (Int32) → Option (Int32)
  | 0, _ => none
  | n + 1, x3 => if (v 3) ≤ x3 then some 0 else if x3 = x2 then f_X13_isTaken_L2 v x1 x2 n (x3 + 1) else (f_X13_where v x3).bind fun q19 => if q19 = x1 then some 1 else (f_X13_where v x3).bind fun q28 => (f_X13_image q28).bind fun q31 => if q31 = x1 then some 1 else f_X13_isTaken_L2 v x1 x2 n (x3 + 1)
def f_X13_isTaken (K : Nat) (v : Nat → Int32) (x1 : Int32) (x2 : Int32) : Option (Int32) := f_X13_isTaken_L2 v x1 x2 K 0
set_option maxHeartbeats 4000000 in
set_option maxRecDepth 100000 in
theorem c_X13_isTaken (l : Launch) {G : mm_G} {K : Nat} {w : va_W} {sz : Nat} {b : Nat} {thrown : Int32} {changes : Int32} {errorAt : Int32} {failedAt : Int32} {isSaved : Int32} {v : Nat → Int32} {before : Nat → Int32} {saved : Nat → Int32} {past : Nat → Int32} {far : Nat → Int32} {scratch : Nat → Int32} {best : Nat → Int32} {thenX : Int32} {thenY : Int32} {thenMet : Int32} {text : Nat → Int32} {line : Nat → Int32} {isLeft : Nat → Int32} {words : Nat → Int32} {wordAt : Nat → Int32} {textN : Int32} {hereP : Int32} {endP : Int32} {lineN : Int32} {isWrong : Int32} {isDoing : Int32} {x1 : Int32} {x2 : Int32} {X : Int32} (hf : f_X13_isTaken K v x1 x2 = some X) (hp_this : At13 G w b thrown changes errorAt failedAt isSaved v before saved past far scratch best thenX thenY thenMet text line isLeft words wordAt textN hereP endP lineN isWrong isDoing) : Met l yX13_isTaken (Cond.code yX13_isTaken cX13_isTaken 4 (some .boolean) :: gAll) ({ frames := 2, cells := 0, slots := 0, locals := 42 }) (va_Pc [.ref b, .int x1, .int x2] (mm_Pre G w sz)) (mm_Qi G w sz (fun r w' => r = X ∧ w' = w)) 0 0 (va_A w sz) := by
  refine mm_headI [.ref b, .int x1, .int x2] (by decide +kernel) rfl (Nat.le_of_ble_eq_true rfl) ?_
  intro p e s m args below meth c A Q hsz hC hM hret ls hl
  have hx := hC.1.1
  have hb := hC.1.2.1
  have hl : lv_has ls 4 [(0, .ref b), (1, .int x1), (2, .int x2)] := hl
  rw [f_X13_isTaken] at hf
  refine lv_iconst (v := 0) hx hb dX13_isTaken_0 (by decide) ?_
  refine lv_istore_n (lv' := [(3, .int 0), (0, .ref b), (1, .int x1), (2, .int x2)]) hx hb dX13_isTaken_1 rfl hl (by decide) rfl (fun ls hl => ?_)
  have L2 : ∀ (n : Nat) (L2_x3 : Int32), f_X13_isTaken_L2 v x1 x2 n L2_x3 = some X → ∀ (H : Heap) (locs : List Loc), mm_S G A s.heap w H locs → ∀ (ls : Array Slot), lv_has ls 4 [(0, .ref b), (1, .int x1), (2, .int x2), (3, .int L2_x3)] → W p l e ({ frames := 2, cells := 0, slots := 0, locals := 42 } : Room) s m args below meth c H locs 0 0 Q (F0 m 2 ls []) := by
    intro n
    induction n with
    | zero => intro L2_x3 hf; cases hf
    | succ n ih =>
      intro L2_x3 hf H locs hM ls hl
      rw [f_X13_isTaken_L2] at hf
      refine lv_iload_n hx hb dX13_isTaken_2 rfl (lv_at hl 3 rfl) ?_
      refine lv_aload_n hx hb dX13_isTaken_3 rfl (lv_at hl 0 rfl) ?_
      refine mm_get hC hM (k := 5) hp_this.1 rfl inAX13 (by decide) q7_10 rfl dX13_isTaken_4 ?_
      refine lv_iconst (v := 3) hx hb dX13_isTaken_7 (by decide) ?_
      refine mm_ialdN (N := 3) hC hM (hp_this.2.1) (by decide) (by unfold vp_in; decide) dX13_isTaken_8 ?_
      refine lv_icmp_ge (tgt := 46) hx hb dX13_isTaken_9 (by decide) (fun hcd => ?_) (fun hcd => ?_)
      · rw [if_pos hcd] at hf
        refine lv_iconst (v := 0) hx hb dX13_isTaken_46 (by decide) ?_
        cases hf
        exact hret hM dX13_isTaken_47 rfl ⟨rfl, rfl⟩
      · rw [if_neg hcd] at hf
        refine lv_iload_n hx hb dX13_isTaken_12 rfl (lv_at hl 3 rfl) ?_
        refine lv_iload_n hx hb dX13_isTaken_13 rfl (lv_at hl 2 rfl) ?_
        refine lv_icmp_eq (tgt := 40) hx hb dX13_isTaken_14 (by decide) (fun hcd => ?_) (fun hcd => ?_)
        · rw [if_pos hcd] at hf
          refine lv_iinc (v := (L2_x3 + 1)) (lv' := [(3, .int (L2_x3 + 1)), (0, .ref b), (1, .int x1), (2, .int x2)]) hx hb dX13_isTaken_40 hl (k := 3) rfl rfl (by decide) rfl (fun ls hl => ?_)
          refine lv_goto (tgt := 2) hx hb dX13_isTaken_43 (by decide) ?_
          exact ih _ hf _ _ hM _ (lv_sub hl [1, 2, 3, 0] rfl)
        · rw [if_neg hcd] at hf
          refine lv_aload_n hx hb dX13_isTaken_17 rfl (lv_at hl 0 rfl) ?_
          refine lv_iload_n hx hb dX13_isTaken_18 rfl (lv_at hl 3 rfl) ?_
          obtain ⟨q19, hq19, hf⟩ := mm_bd hf
          refine mm_Vi (rest := []) hC hM (c_X13_where l hq19 hp_this) q7_123 q1_12 ykX13_where q7_120 q7_122 qp_3e96a34e hp_this.1 rfl ⟨rfl, rfl⟩ ⟨Nat.le_of_ble_eq_true rfl, Nat.le_of_ble_eq_true rfl⟩ rfl hl.1 rfl (Nat.le_of_ble_eq_true rfl) dX13_isTaken_19 ⟨Nat.le_of_ble_eq_true rfl, Nat.le_of_ble_eq_true rfl⟩ (fun r w19 H locs hM hw => ?_)
          obtain ⟨hr, hw⟩ := hw
          rw [hr]
          rw [hw] at hM
          refine lv_iload_n hx hb dX13_isTaken_22 rfl (lv_at hl 1 rfl) ?_
          refine lv_icmp_eq (tgt := 38) hx hb dX13_isTaken_23 (by decide) (fun hcd => ?_) (fun hcd => ?_)
          · rw [if_pos hcd] at hf
            refine lv_iconst (v := 1) hx hb dX13_isTaken_38 (by decide) ?_
            cases hf
            exact hret hM dX13_isTaken_39 rfl ⟨rfl, rfl⟩
          · rw [if_neg hcd] at hf
            refine lv_aload_n hx hb dX13_isTaken_26 rfl (lv_at hl 0 rfl) ?_
            refine lv_iload_n hx hb dX13_isTaken_27 rfl (lv_at hl 3 rfl) ?_
            obtain ⟨q28, hq28, hf⟩ := mm_bd hf
            refine mm_Vi (rest := []) hC hM (c_X13_where l hq28 hp_this) q7_123 q1_12 ykX13_where q7_120 q7_122 qp_3e96a34e hp_this.1 rfl ⟨rfl, rfl⟩ ⟨Nat.le_of_ble_eq_true rfl, Nat.le_of_ble_eq_true rfl⟩ rfl hl.1 rfl (Nat.le_of_ble_eq_true rfl) dX13_isTaken_28 ⟨Nat.le_of_ble_eq_true rfl, Nat.le_of_ble_eq_true rfl⟩ (fun r w28 H locs hM hw => ?_)
            obtain ⟨hr, hw⟩ := hw
            rw [hr]
            rw [hw] at hM
            obtain ⟨q31, hq31, hf⟩ := mm_bd hf
            refine mm_Si (rest := []) hC hM (c_X13_image l hq31) q7_129 q1_12 ykX13_image q7_127 q7_128 ⟨rfl, rfl⟩ ⟨Nat.le_of_ble_eq_true rfl, Nat.le_of_ble_eq_true rfl⟩ rfl hl.1 rfl (Nat.le_of_ble_eq_true rfl) dX13_isTaken_31 ⟨Nat.le_of_ble_eq_true rfl, Nat.le_of_ble_eq_true rfl⟩ (fun r w31 H locs hM hw => ?_)
            obtain ⟨hr, hw⟩ := hw
            rw [hr]
            rw [hw] at hM
            refine lv_iload_n hx hb dX13_isTaken_34 rfl (lv_at hl 1 rfl) ?_
            refine lv_icmp_ne (tgt := 40) hx hb dX13_isTaken_35 (by decide) (fun hcd => ?_) (fun hcd => ?_)
            · rw [if_neg hcd] at hf
              refine lv_iinc (v := (L2_x3 + 1)) (lv' := [(3, .int (L2_x3 + 1)), (0, .ref b), (1, .int x1), (2, .int x2)]) hx hb dX13_isTaken_40 hl (k := 3) rfl rfl (by decide) rfl (fun ls hl => ?_)
              refine lv_goto (tgt := 2) hx hb dX13_isTaken_43 (by decide) ?_
              exact ih _ hf _ _ hM _ (lv_sub hl [1, 2, 3, 0] rfl)
            · rw [if_pos hcd] at hf
              refine lv_iconst (v := 1) hx hb dX13_isTaken_38 (by decide) ?_
              cases hf
              exact hret hM dX13_isTaken_39 rfl ⟨rfl, rfl⟩
  exact L2 K _ hf _ _ hM _ (lv_sub hl [1, 2, 3, 0] rfl)
def f_X13_find_L2 (v : Nat → Int32) (x1 : Int32) : Nat → (Int32) → Option (Int32)
  | 0, _ => none
  | n + 1, x2 => if (v 3) ≤ x2 then some (-1) else (f_X13_of x2 0).bind fun q18 => mm_g (mm_ck q18 238) (if (v q18.toNatClampNeg) = x1 then some x2 else f_X13_find_L2 v x1 n (x2 + 1))
def f_X13_find (K : Nat) (v : Nat → Int32) (x1 : Int32) : Option (Int32) := f_X13_find_L2 v x1 K 0
set_option maxHeartbeats 4000000 in
set_option maxRecDepth 100000 in
theorem c_X13_find (l : Launch) {G : mm_G} {K : Nat} {w : va_W} {sz : Nat} {b : Nat} {thrown : Int32} {changes : Int32} {errorAt : Int32} {failedAt : Int32} {isSaved : Int32} {v : Nat → Int32} {before : Nat → Int32} {saved : Nat → Int32} {past : Nat → Int32} {far : Nat → Int32} {scratch : Nat → Int32} {best : Nat → Int32} {thenX : Int32} {thenY : Int32} {thenMet : Int32} {text : Nat → Int32} {line : Nat → Int32} {isLeft : Nat → Int32} {words : Nat → Int32} {wordAt : Nat → Int32} {textN : Int32} {hereP : Int32} {endP : Int32} {lineN : Int32} {isWrong : Int32} {isDoing : Int32} {x1 : Int32} {X : Int32} (hf : f_X13_find K v x1 = some X) (hp_this : At13 G w b thrown changes errorAt failedAt isSaved v before saved past far scratch best thenX thenY thenMet text line isLeft words wordAt textN hereP endP lineN isWrong isDoing) : Met l yX13_find (Cond.code yX13_find cX13_find 3 (some .int) :: gAll) ({ frames := 1, cells := 0, slots := 0, locals := 21 }) (va_Pc [.ref b, .int x1] (mm_Pre G w sz)) (mm_Qi G w sz (fun r w' => r = X ∧ w' = w)) 0 0 (va_A w sz) := by
  refine mm_headI [.ref b, .int x1] (by decide +kernel) rfl (Nat.le_of_ble_eq_true rfl) ?_
  intro p e s m args below meth c A Q hsz hC hM hret ls hl
  have hx := hC.1.1
  have hb := hC.1.2.1
  have hl : lv_has ls 3 [(0, .ref b), (1, .int x1)] := hl
  rw [f_X13_find] at hf
  refine lv_iconst (v := 0) hx hb dX13_find_0 (by decide) ?_
  refine lv_istore_n (lv' := [(2, .int 0), (0, .ref b), (1, .int x1)]) hx hb dX13_find_1 rfl hl (by decide) rfl (fun ls hl => ?_)
  have L2 : ∀ (n : Nat) (L2_x2 : Int32), f_X13_find_L2 v x1 n L2_x2 = some X → ∀ (H : Heap) (locs : List Loc), mm_S G A s.heap w H locs → ∀ (ls : Array Slot), lv_has ls 3 [(0, .ref b), (1, .int x1), (2, .int L2_x2)] → W p l e ({ frames := 1, cells := 0, slots := 0, locals := 21 } : Room) s m args below meth c H locs 0 0 Q (F0 m 2 ls []) := by
    intro n
    induction n with
    | zero => intro L2_x2 hf; cases hf
    | succ n ih =>
      intro L2_x2 hf H locs hM ls hl
      rw [f_X13_find_L2] at hf
      refine lv_iload_n hx hb dX13_find_2 rfl (lv_at hl 2 rfl) ?_
      refine lv_aload_n hx hb dX13_find_3 rfl (lv_at hl 0 rfl) ?_
      refine mm_get hC hM (k := 5) hp_this.1 rfl inAX13 (by decide) q7_10 rfl dX13_find_4 ?_
      refine lv_iconst (v := 3) hx hb dX13_find_7 (by decide) ?_
      refine mm_ialdN (N := 3) hC hM (hp_this.2.1) (by decide) (by unfold vp_in; decide) dX13_find_8 ?_
      refine lv_icmp_ge (tgt := 34) hx hb dX13_find_9 (by decide) (fun hcd => ?_) (fun hcd => ?_)
      · rw [if_pos hcd] at hf
        refine lv_iconst (v := (-1)) hx hb dX13_find_34 (by decide) ?_
        cases hf
        exact hret hM dX13_find_35 rfl ⟨rfl, rfl⟩
      · rw [if_neg hcd] at hf
        refine lv_aload_n hx hb dX13_find_12 rfl (lv_at hl 0 rfl) ?_
        refine mm_get hC hM (k := 5) hp_this.1 rfl inAX13 (by decide) q7_10 rfl dX13_find_13 ?_
        refine lv_iload_n hx hb dX13_find_16 rfl (lv_at hl 2 rfl) ?_
        refine lv_iconst (v := 0) hx hb dX13_find_17 (by decide) ?_
        obtain ⟨q18, hq18, hf⟩ := mm_bd hf
        refine mm_Si (rest := [.ref (b + 1)]) hC hM (c_X13_of l hq18) q7_126 q1_12 ykX13_of q7_124 q7_125 ⟨rfl, rfl⟩ ⟨Nat.le_of_ble_eq_true rfl, Nat.le_of_ble_eq_true rfl⟩ rfl hl.1 rfl (Nat.le_of_ble_eq_true rfl) dX13_find_18 ⟨Nat.le_of_ble_eq_true rfl, Nat.le_of_ble_eq_true rfl⟩ (fun r w18 H locs hM hw => ?_)
        obtain ⟨hr, hw⟩ := hw
        rw [hr]
        rw [hw] at hM
        obtain ⟨hg21, hf⟩ := mm_gd hf
        refine mm_iald hC hM (hp_this.2.1) hg21 dX13_find_21 ?_
        refine lv_iload_n hx hb dX13_find_22 rfl (lv_at hl 1 rfl) ?_
        refine lv_icmp_ne (tgt := 28) hx hb dX13_find_23 (by decide) (fun hcd => ?_) (fun hcd => ?_)
        · rw [if_neg hcd] at hf
          refine lv_iinc (v := (L2_x2 + 1)) (lv' := [(2, .int (L2_x2 + 1)), (0, .ref b), (1, .int x1)]) hx hb dX13_find_28 hl (k := 2) rfl rfl (by decide) rfl (fun ls hl => ?_)
          refine lv_goto (tgt := 2) hx hb dX13_find_31 (by decide) ?_
          exact ih _ hf _ _ hM _ (lv_sub hl [1, 2, 0] rfl)
        · rw [if_pos hcd] at hf
          refine lv_iload_n hx hb dX13_find_26 rfl (lv_at hl 2 rfl) ?_
          cases hf
          exact hret hM dX13_find_27 rfl ⟨rfl, rfl⟩
  exact L2 K _ hf _ _ hM _ (lv_sub hl [1, 2, 0] rfl)
def f_X13_isPlan (x0 : Int32) : Option (Int32) := (f_X13_isIn x0 0 5).bind fun q3 => mm_g (decide (q3 = 0 ∨ q3 = 1)) (some q3)
set_option maxHeartbeats 4000000 in
set_option maxRecDepth 100000 in
theorem c_X13_isPlan (l : Launch) {G : mm_G} {w : va_W} {sz : Nat} {x0 : Int32} {X : Int32} (hf : f_X13_isPlan x0 = some X) : Met l yX13_isPlan (Cond.code yX13_isPlan cX13_isPlan 1 (some .boolean) :: gAll) ({ frames := 1, cells := 0, slots := 0, locals := 22 }) (va_Pc [.int x0] (mm_Pre G w sz)) (mm_Qi G w sz (fun r w' => r = X ∧ w' = w)) 0 0 (va_A w sz) := by
  refine mm_headI [.int x0] (by decide +kernel) rfl (Nat.le_of_ble_eq_true rfl) ?_
  intro p e s m args below meth c A Q hsz hC hM hret ls hl
  have hx := hC.1.1
  have hb := hC.1.2.1
  have hl : lv_has ls 1 [(0, .int x0)] := hl
  rw [f_X13_isPlan] at hf
  refine lv_iload_n hx hb dX13_isPlan_0 rfl (lv_at hl 0 rfl) ?_
  refine lv_iconst (v := 0) hx hb dX13_isPlan_1 (by decide) ?_
  refine lv_iconst (v := 5) hx hb dX13_isPlan_2 (by decide) ?_
  obtain ⟨q3, hq3, hf⟩ := mm_bd hf
  refine mm_Si (rest := []) hC hM (c_X13_isIn l hq3) q7_108 q1_12 ykX13_isIn q7_106 q7_107 ⟨rfl, rfl⟩ ⟨Nat.le_of_ble_eq_true rfl, Nat.le_of_ble_eq_true rfl⟩ rfl hl.1 rfl (Nat.le_of_ble_eq_true rfl) dX13_isPlan_3 ⟨Nat.le_of_ble_eq_true rfl, Nat.le_of_ble_eq_true rfl⟩ (fun r w3 H locs hM hw => ?_)
  obtain ⟨hr, hw⟩ := hw
  rw [hr]
  rw [hw] at hM
  obtain ⟨hgr, hf⟩ := mm_gb hf
  cases hf
  exact hret hM dX13_isPlan_6 (mm_narZ (of_decide_eq_true hgr)) ⟨rfl, rfl⟩
def f_X13_at (x0 : Int32) (x1 : Int32) : Option (Int32) := some ((110 + (20 * x0)) + x1)
set_option maxHeartbeats 4000000 in
set_option maxRecDepth 100000 in
theorem c_X13_at (l : Launch) {G : mm_G} {w : va_W} {sz : Nat} {x0 : Int32} {x1 : Int32} {X : Int32} (hf : f_X13_at x0 x1 = some X) : Met l yX13_at (Cond.code yX13_at cX13_at 2 (some .int) :: gAll) ({ frames := 0, cells := 0, slots := 0, locals := 0 }) (va_Pc [.int x0, .int x1] (mm_Pre G w sz)) (mm_Qi G w sz (fun r w' => r = X ∧ w' = w)) 0 0 (va_A w sz) := by
  refine mm_headI [.int x0, .int x1] (by decide +kernel) rfl (Nat.le_of_ble_eq_true rfl) ?_
  intro p e s m args below meth c A Q hsz hC hM hret ls hl
  have hx := hC.1.1
  have hb := hC.1.2.1
  have hl : lv_has ls 2 [(0, .int x0), (1, .int x1)] := hl
  rw [f_X13_at] at hf
  refine lv_bipush (v := 110) hx hb dX13_at_0 (by decide) ?_
  refine lv_bipush (v := 20) hx hb dX13_at_2 (by decide) ?_
  refine lv_iload_n hx hb dX13_at_4 rfl (lv_at hl 0 rfl) ?_
  refine lv_imul hx hb dX13_at_5 ?_
  refine lv_iadd hx hb dX13_at_6 ?_
  refine lv_iload_n hx hb dX13_at_7 rfl (lv_at hl 1 rfl) ?_
  refine lv_iadd hx hb dX13_at_8 ?_
  cases hf
  exact hret hM dX13_at_9 rfl ⟨rfl, rfl⟩
def f_X13_grows (K : Nat) (thrown : Int32) (v : Nat → Int32) (x1 : Int32) (x2 : Int32) : Option (Int32 × Int32 × (Nat → Int32)) := (f_X13_isCell x1 x2).bind fun q2 => if q2 = 0 then (f_X13_fail 1).bind fun q10 => some (q10.1, q10.2, v) else (f_X13_cell x1 x2).bind fun q22 => mm_g (mm_ck (7 + q22) 238) (if (v (7 + q22).toNatClampNeg) = 0 then (f_X13_cell x1 x2).bind fun q33 => (f_X13_isTaken K v q33 (-1)).bind fun q37 => if q37 = 0 then if (v 0) = 30 then (f_X13_fail 2).bind fun q56 => some (q56.1, q56.2, v) else (f_X13_cell x1 x2).bind fun q68 => mm_g (mm_ck (7 + q68) 238) (some (((upd (upd v ((7 + q68).toNatClampNeg) 1) 0 (((upd v ((7 + q68).toNatClampNeg) 1) 0) + 1)) 0), thrown, (upd (upd v ((7 + q68).toNatClampNeg) 1) 0 (((upd v ((7 + q68).toNatClampNeg) 1) 0) + 1)))) else (f_X13_fail 2).bind fun q56 => some (q56.1, q56.2, v) else (f_X13_fail 2).bind fun q56 => some (q56.1, q56.2, v))
set_option maxHeartbeats 4000000 in
set_option maxRecDepth 100000 in
theorem c_X13_grows (l : Launch) {G : mm_G} {K : Nat} {w : va_W} {sz : Nat} {b : Nat} {thrown : Int32} {changes : Int32} {errorAt : Int32} {failedAt : Int32} {isSaved : Int32} {v : Nat → Int32} {before : Nat → Int32} {saved : Nat → Int32} {past : Nat → Int32} {far : Nat → Int32} {scratch : Nat → Int32} {best : Nat → Int32} {thenX : Int32} {thenY : Int32} {thenMet : Int32} {text : Nat → Int32} {line : Nat → Int32} {isLeft : Nat → Int32} {words : Nat → Int32} {wordAt : Nat → Int32} {textN : Int32} {hereP : Int32} {endP : Int32} {lineN : Int32} {isWrong : Int32} {isDoing : Int32} {x1 : Int32} {x2 : Int32} {X : Int32 × Int32 × (Nat → Int32)} (hf : f_X13_grows K thrown v x1 x2 = some X) (hp_this : At13 G w b thrown changes errorAt failedAt isSaved v before saved past far scratch best thenX thenY thenMet text line isLeft words wordAt textN hereP endP lineN isWrong isDoing) : Met l yX13_grows (Cond.code yX13_grows cX13_grows 3 (some .int) :: gAll) ({ frames := 3, cells := 0, slots := 0, locals := 65 }) (va_Pc [.ref b, .int x1, .int x2] (mm_Pre G w sz)) (mm_Qi G w sz (fun r w' => r = X.1 ∧ At13 G w' b X.2.1 changes errorAt failedAt isSaved X.2.2 before saved past far scratch best thenX thenY thenMet text line isLeft words wordAt textN hereP endP lineN isWrong isDoing ∧ mm_fr w w' b (b + 13))) 0 0 (va_A w sz) := by
  refine mm_headI [.ref b, .int x1, .int x2] (by decide +kernel) rfl (Nat.le_of_ble_eq_true rfl) ?_
  intro p e s m args below meth c A Q hsz hC hM hret ls hl
  have hx := hC.1.1
  have hb := hC.1.2.1
  have hl : lv_has ls 3 [(0, .ref b), (1, .int x1), (2, .int x2)] := hl
  have hF : mm_fr w w b (b + 13) := mm_fr.rf
  rw [f_X13_grows] at hf
  refine lv_iload_n hx hb dX13_grows_0 rfl (lv_at hl 1 rfl) ?_
  refine lv_iload_n hx hb dX13_grows_1 rfl (lv_at hl 2 rfl) ?_
  obtain ⟨q2, hq2, hf⟩ := mm_bd hf
  refine mm_Si (rest := []) hC hM (c_X13_isCell l hq2) q7_105 q1_12 ykX13_isCell q7_103 q7_104 ⟨rfl, rfl⟩ ⟨Nat.le_of_ble_eq_true rfl, Nat.le_of_ble_eq_true rfl⟩ rfl hl.1 rfl (Nat.le_of_ble_eq_true rfl) dX13_grows_2 ⟨Nat.le_of_ble_eq_true rfl, Nat.le_of_ble_eq_true rfl⟩ (fun r w2 H locs hM hw => ?_)
  obtain ⟨hr, hw⟩ := hw
  rw [hr]
  rw [hw] at hM
  refine lv_if_ne (tgt := 14) hx hb dX13_grows_5 (by decide) (fun hcd => ?_) (fun hcd => ?_)
  · rw [if_neg hcd] at hf
    refine lv_aload_n hx hb dX13_grows_14 rfl (lv_at hl 0 rfl) ?_
    refine mm_get hC hM (k := 5) hp_this.1 rfl inAX13 (by decide) q7_10 rfl dX13_grows_15 ?_
    refine lv_bipush (v := 7) hx hb dX13_grows_18 (by decide) ?_
    refine lv_iload_n hx hb dX13_grows_20 rfl (lv_at hl 1 rfl) ?_
    refine lv_iload_n hx hb dX13_grows_21 rfl (lv_at hl 2 rfl) ?_
    obtain ⟨q22, hq22, hf⟩ := mm_bd hf
    refine mm_Si (rest := [.int 7, .ref (b + 1)]) hC hM (c_X13_cell l hq22) q7_115 q1_12 ykX13_cell q7_113 q7_114 ⟨rfl, rfl⟩ ⟨Nat.le_of_ble_eq_true rfl, Nat.le_of_ble_eq_true rfl⟩ rfl hl.1 rfl (Nat.le_of_ble_eq_true rfl) dX13_grows_22 ⟨Nat.le_of_ble_eq_true rfl, Nat.le_of_ble_eq_true rfl⟩ (fun r w22 H locs hM hw => ?_)
    obtain ⟨hr, hw⟩ := hw
    rw [hr]
    rw [hw] at hM
    refine lv_iadd hx hb dX13_grows_25 ?_
    obtain ⟨hg26, hf⟩ := mm_gd hf
    refine mm_iald hC hM (hp_this.2.1) hg26 dX13_grows_26 ?_
    refine lv_if_ne (tgt := 54) hx hb dX13_grows_27 (by decide) (fun hcd => ?_) (fun hcd => ?_)
    · rw [if_neg hcd] at hf
      refine lv_aload_n hx hb dX13_grows_54 rfl (lv_at hl 0 rfl) ?_
      refine lv_iconst (v := 2) hx hb dX13_grows_55 (by decide) ?_
      obtain ⟨q56, hq56, hf⟩ := mm_bd hf
      refine mm_Vi (rest := []) hC hM (c_X13_fail l hq56 hp_this) q7_112 q1_12 ykX13_fail q7_109 q7_111 qp_bcc4f98e hp_this.1 rfl ⟨rfl, rfl⟩ ⟨Nat.le_of_ble_eq_true rfl, Nat.le_of_ble_eq_true rfl⟩ rfl hl.1 rfl (Nat.le_of_ble_eq_true rfl) dX13_grows_56 ⟨Nat.le_of_ble_eq_true rfl, Nat.le_of_ble_eq_true rfl⟩ (fun r w56 H locs hM hw => ?_)
      obtain ⟨hr, hn_this, hfr⟩ := hw
      rw [hr]
      have hp_this := hn_this
      have hF := hF.tr (hfr.wide (by omega) (by omega))
      cases hf
      exact hret hM dX13_grows_59 rfl ⟨rfl, hp_this, hF⟩
    · rw [if_pos hcd] at hf
      refine lv_aload_n hx hb dX13_grows_30 rfl (lv_at hl 0 rfl) ?_
      refine lv_iload_n hx hb dX13_grows_31 rfl (lv_at hl 1 rfl) ?_
      refine lv_iload_n hx hb dX13_grows_32 rfl (lv_at hl 2 rfl) ?_
      obtain ⟨q33, hq33, hf⟩ := mm_bd hf
      refine mm_Si (rest := [.ref b]) hC hM (c_X13_cell l hq33) q7_115 q1_12 ykX13_cell q7_113 q7_114 ⟨rfl, rfl⟩ ⟨Nat.le_of_ble_eq_true rfl, Nat.le_of_ble_eq_true rfl⟩ rfl hl.1 rfl (Nat.le_of_ble_eq_true rfl) dX13_grows_33 ⟨Nat.le_of_ble_eq_true rfl, Nat.le_of_ble_eq_true rfl⟩ (fun r w33 H locs hM hw => ?_)
      obtain ⟨hr, hw⟩ := hw
      rw [hr]
      rw [hw] at hM
      refine lv_iconst (v := (-1)) hx hb dX13_grows_36 (by decide) ?_
      obtain ⟨q37, hq37, hf⟩ := mm_bd hf
      refine mm_Vi (rest := []) hC hM (c_X13_isTaken l hq37 hp_this) q7_119 q1_12 ykX13_isTaken q7_116 q7_118 qp_afe37682 hp_this.1 rfl ⟨rfl, rfl⟩ ⟨Nat.le_of_ble_eq_true rfl, Nat.le_of_ble_eq_true rfl⟩ rfl hl.1 rfl (Nat.le_of_ble_eq_true rfl) dX13_grows_37 ⟨Nat.le_of_ble_eq_true rfl, Nat.le_of_ble_eq_true rfl⟩ (fun r w37 H locs hM hw => ?_)
      obtain ⟨hr, hw⟩ := hw
      rw [hr]
      rw [hw] at hM
      refine lv_if_ne (tgt := 54) hx hb dX13_grows_40 (by decide) (fun hcd => ?_) (fun hcd => ?_)
      · rw [if_neg hcd] at hf
        refine lv_aload_n hx hb dX13_grows_54 rfl (lv_at hl 0 rfl) ?_
        refine lv_iconst (v := 2) hx hb dX13_grows_55 (by decide) ?_
        obtain ⟨q56, hq56, hf⟩ := mm_bd hf
        refine mm_Vi (rest := []) hC hM (c_X13_fail l hq56 hp_this) q7_112 q1_12 ykX13_fail q7_109 q7_111 qp_bcc4f98e hp_this.1 rfl ⟨rfl, rfl⟩ ⟨Nat.le_of_ble_eq_true rfl, Nat.le_of_ble_eq_true rfl⟩ rfl hl.1 rfl (Nat.le_of_ble_eq_true rfl) dX13_grows_56 ⟨Nat.le_of_ble_eq_true rfl, Nat.le_of_ble_eq_true rfl⟩ (fun r w56 H locs hM hw => ?_)
        obtain ⟨hr, hn_this, hfr⟩ := hw
        rw [hr]
        have hp_this := hn_this
        have hF := hF.tr (hfr.wide (by omega) (by omega))
        cases hf
        exact hret hM dX13_grows_59 rfl ⟨rfl, hp_this, hF⟩
      · rw [if_pos hcd] at hf
        refine lv_aload_n hx hb dX13_grows_43 rfl (lv_at hl 0 rfl) ?_
        refine mm_get hC hM (k := 5) hp_this.1 rfl inAX13 (by decide) q7_10 rfl dX13_grows_44 ?_
        refine lv_iconst (v := 0) hx hb dX13_grows_47 (by decide) ?_
        refine mm_ialdN (N := 0) hC hM (hp_this.2.1) (by decide) (by unfold vp_in; decide) dX13_grows_48 ?_
        refine lv_bipush (v := 30) hx hb dX13_grows_49 (by decide) ?_
        refine lv_icmp_ne (tgt := 60) hx hb dX13_grows_51 (by decide) (fun hcd => ?_) (fun hcd => ?_)
        · rw [if_neg hcd] at hf
          refine lv_aload_n hx hb dX13_grows_60 rfl (lv_at hl 0 rfl) ?_
          refine mm_get hC hM (k := 5) hp_this.1 rfl inAX13 (by decide) q7_10 rfl dX13_grows_61 ?_
          refine lv_bipush (v := 7) hx hb dX13_grows_64 (by decide) ?_
          refine lv_iload_n hx hb dX13_grows_66 rfl (lv_at hl 1 rfl) ?_
          refine lv_iload_n hx hb dX13_grows_67 rfl (lv_at hl 2 rfl) ?_
          obtain ⟨q68, hq68, hf⟩ := mm_bd hf
          refine mm_Si (rest := [.int 7, .ref (b + 1)]) hC hM (c_X13_cell l hq68) q7_115 q1_12 ykX13_cell q7_113 q7_114 ⟨rfl, rfl⟩ ⟨Nat.le_of_ble_eq_true rfl, Nat.le_of_ble_eq_true rfl⟩ rfl hl.1 rfl (Nat.le_of_ble_eq_true rfl) dX13_grows_68 ⟨Nat.le_of_ble_eq_true rfl, Nat.le_of_ble_eq_true rfl⟩ (fun r w68 H locs hM hw => ?_)
          obtain ⟨hr, hw⟩ := hw
          rw [hr]
          rw [hw] at hM
          refine lv_iadd hx hb dX13_grows_71 ?_
          refine lv_iconst (v := 1) hx hb dX13_grows_72 (by decide) ?_
          obtain ⟨hg73, hf⟩ := mm_gd hf
          refine mm_iast hC hM (hp_this.2.1) hg73 dX13_grows_73 (fun w73 H locs hM hm => ?_)
          have hp_this : At13 G w73 b thrown changes errorAt failedAt isSaved (upd v ((7 + q68).toNatClampNeg) 1) before saved past far scratch best thenX thenY thenMet text line isLeft words wordAt textN hereP endP lineN isWrong isDoing := ⟨hm.keep (hp_this.1) (by omega), hm.1, hm.keep (hp_this.2.2.1) (by omega), hm.keep (hp_this.2.2.2.1) (by omega), hm.keep (hp_this.2.2.2.2.1) (by omega), hm.keep (hp_this.2.2.2.2.2.1) (by omega), hm.keep (hp_this.2.2.2.2.2.2.1) (by omega), hm.keep (hp_this.2.2.2.2.2.2.2.1) (by omega), hm.keep (hp_this.2.2.2.2.2.2.2.2.1) (by omega), hm.keep (hp_this.2.2.2.2.2.2.2.2.2.1) (by omega), hm.keep (hp_this.2.2.2.2.2.2.2.2.2.2.1) (by omega), hm.keep (hp_this.2.2.2.2.2.2.2.2.2.2.2.1) (by omega), hm.keep (hp_this.2.2.2.2.2.2.2.2.2.2.2.2) (by omega)⟩
          have hF := hF.tr (hm.fr (by omega) (by omega))
          refine lv_aload_n hx hb dX13_grows_74 rfl (lv_at hl 0 rfl) ?_
          refine mm_get hC hM (k := 5) hp_this.1 rfl inAX13 (by decide) q7_10 rfl dX13_grows_75 ?_
          refine lv_iconst (v := 0) hx hb dX13_grows_78 (by decide) ?_
          refine lv_dup2_11 hx hb dX13_grows_79 rfl rfl ?_
          refine mm_ialdN (N := 0) hC hM (hp_this.2.1) (by decide) (by unfold vp_in; decide) dX13_grows_80 ?_
          refine lv_iconst (v := 1) hx hb dX13_grows_81 (by decide) ?_
          refine lv_iadd hx hb dX13_grows_82 ?_
          refine mm_iastN (N := 0) hC hM (hp_this.2.1) (by decide) (by unfold vp_in; decide) dX13_grows_83 (fun w83 H locs hM hm => ?_)
          have hp_this : At13 G w83 b thrown changes errorAt failedAt isSaved (upd (upd v ((7 + q68).toNatClampNeg) 1) 0 (((upd v ((7 + q68).toNatClampNeg) 1) 0) + 1)) before saved past far scratch best thenX thenY thenMet text line isLeft words wordAt textN hereP endP lineN isWrong isDoing := ⟨hm.keep (hp_this.1) (by omega), hm.1, hm.keep (hp_this.2.2.1) (by omega), hm.keep (hp_this.2.2.2.1) (by omega), hm.keep (hp_this.2.2.2.2.1) (by omega), hm.keep (hp_this.2.2.2.2.2.1) (by omega), hm.keep (hp_this.2.2.2.2.2.2.1) (by omega), hm.keep (hp_this.2.2.2.2.2.2.2.1) (by omega), hm.keep (hp_this.2.2.2.2.2.2.2.2.1) (by omega), hm.keep (hp_this.2.2.2.2.2.2.2.2.2.1) (by omega), hm.keep (hp_this.2.2.2.2.2.2.2.2.2.2.1) (by omega), hm.keep (hp_this.2.2.2.2.2.2.2.2.2.2.2.1) (by omega), hm.keep (hp_this.2.2.2.2.2.2.2.2.2.2.2.2) (by omega)⟩
          have hF := hF.tr (hm.fr (by omega) (by omega))
          refine lv_aload_n hx hb dX13_grows_84 rfl (lv_at hl 0 rfl) ?_
          refine mm_get hC hM (k := 5) hp_this.1 rfl inAX13 (by decide) q7_10 rfl dX13_grows_85 ?_
          refine lv_iconst (v := 0) hx hb dX13_grows_88 (by decide) ?_
          refine mm_ialdN (N := 0) hC hM (hp_this.2.1) (by decide) (by unfold vp_in; decide) dX13_grows_89 ?_
          cases hf
          exact hret hM dX13_grows_90 rfl ⟨rfl, hp_this, hF⟩
        · rw [if_pos hcd] at hf
          refine lv_aload_n hx hb dX13_grows_54 rfl (lv_at hl 0 rfl) ?_
          refine lv_iconst (v := 2) hx hb dX13_grows_55 (by decide) ?_
          obtain ⟨q56, hq56, hf⟩ := mm_bd hf
          refine mm_Vi (rest := []) hC hM (c_X13_fail l hq56 hp_this) q7_112 q1_12 ykX13_fail q7_109 q7_111 qp_bcc4f98e hp_this.1 rfl ⟨rfl, rfl⟩ ⟨Nat.le_of_ble_eq_true rfl, Nat.le_of_ble_eq_true rfl⟩ rfl hl.1 rfl (Nat.le_of_ble_eq_true rfl) dX13_grows_56 ⟨Nat.le_of_ble_eq_true rfl, Nat.le_of_ble_eq_true rfl⟩ (fun r w56 H locs hM hw => ?_)
          obtain ⟨hr, hn_this, hfr⟩ := hw
          rw [hr]
          have hp_this := hn_this
          have hF := hF.tr (hfr.wide (by omega) (by omega))
          cases hf
          exact hret hM dX13_grows_59 rfl ⟨rfl, hp_this, hF⟩
  · rw [if_pos hcd] at hf
    refine lv_aload_n hx hb dX13_grows_8 rfl (lv_at hl 0 rfl) ?_
    refine lv_iconst (v := 1) hx hb dX13_grows_9 (by decide) ?_
    obtain ⟨q10, hq10, hf⟩ := mm_bd hf
    refine mm_Vi (rest := []) hC hM (c_X13_fail l hq10 hp_this) q7_112 q1_12 ykX13_fail q7_109 q7_111 qp_bcc4f98e hp_this.1 rfl ⟨rfl, rfl⟩ ⟨Nat.le_of_ble_eq_true rfl, Nat.le_of_ble_eq_true rfl⟩ rfl hl.1 rfl (Nat.le_of_ble_eq_true rfl) dX13_grows_10 ⟨Nat.le_of_ble_eq_true rfl, Nat.le_of_ble_eq_true rfl⟩ (fun r w10 H locs hM hw => ?_)
    obtain ⟨hr, hn_this, hfr⟩ := hw
    rw [hr]
    have hp_this := hn_this
    have hF := hF.tr (hfr.wide (by omega) (by omega))
    cases hf
    exact hret hM dX13_grows_13 rfl ⟨rfl, hp_this, hF⟩
def f_X13_addReed (K : Nat) (changes : Int32) (v : Nat → Int32) (before : Nat → Int32) (past : Nat → Int32) (x1 : Int32) (x2 : Int32) : Option (Int32 × Int32 × Int32 × (Nat → Int32) × (Nat → Int32) × (Nat → Int32)) := (f_X13_begins K v before).bind fun q1 => (f_X13_grows K q1.1 v x1 x2).bind fun q8 => (f_X13_ends K q8.2.1 changes q8.2.2 q1.2 past q8.1).bind fun q11 => some (q11.1, q8.2.1, q11.2.1, q11.2.2.1, q1.2, q11.2.2.2)
set_option maxHeartbeats 4000000 in
set_option maxRecDepth 100000 in
theorem c_X13_addReed (l : Launch) {G : mm_G} {K : Nat} {w : va_W} {sz : Nat} {b : Nat} {thrown : Int32} {changes : Int32} {errorAt : Int32} {failedAt : Int32} {isSaved : Int32} {v : Nat → Int32} {before : Nat → Int32} {saved : Nat → Int32} {past : Nat → Int32} {far : Nat → Int32} {scratch : Nat → Int32} {best : Nat → Int32} {thenX : Int32} {thenY : Int32} {thenMet : Int32} {text : Nat → Int32} {line : Nat → Int32} {isLeft : Nat → Int32} {words : Nat → Int32} {wordAt : Nat → Int32} {textN : Int32} {hereP : Int32} {endP : Int32} {lineN : Int32} {isWrong : Int32} {isDoing : Int32} {x1 : Int32} {x2 : Int32} {X : Int32 × Int32 × Int32 × (Nat → Int32) × (Nat → Int32) × (Nat → Int32)} (hf : f_X13_addReed K changes v before past x1 x2 = some X) (hp_this : At13 G w b thrown changes errorAt failedAt isSaved v before saved past far scratch best thenX thenY thenMet text line isLeft words wordAt textN hereP endP lineN isWrong isDoing) : Met l yX13_addReed (Cond.code yX13_addReed cX13_addReed 3 (some .int) :: gAll) ({ frames := 4, cells := 0, slots := 0, locals := 87 }) (va_Pc [.ref b, .int x1, .int x2] (mm_Pre G w sz)) (mm_Qi G w sz (fun r w' => r = X.1 ∧ At13 G w' b X.2.1 X.2.2.1 errorAt failedAt isSaved X.2.2.2.1 X.2.2.2.2.1 saved X.2.2.2.2.2 far scratch best thenX thenY thenMet text line isLeft words wordAt textN hereP endP lineN isWrong isDoing ∧ mm_fr w w' b (b + 13))) 0 0 (va_A w sz) := by
  refine mm_headI [.ref b, .int x1, .int x2] (by decide +kernel) rfl (Nat.le_of_ble_eq_true rfl) ?_
  intro p e s m args below meth c A Q hsz hC hM hret ls hl
  have hx := hC.1.1
  have hb := hC.1.2.1
  have hl : lv_has ls 3 [(0, .ref b), (1, .int x1), (2, .int x2)] := hl
  have hF : mm_fr w w b (b + 13) := mm_fr.rf
  rw [f_X13_addReed] at hf
  refine lv_aload_n hx hb dX13_addReed_0 rfl (lv_at hl 0 rfl) ?_
  obtain ⟨q1, hq1, hf⟩ := mm_bd hf
  refine mm_Vv (rest := []) hC hM (c_X13_begins l hq1 hp_this) q7_95 q1_12 ykX13_begins q7_92 q7_94 qp_0e68fe50 hp_this.1 rfl ⟨rfl, rfl⟩ ⟨Nat.le_of_ble_eq_true rfl, Nat.le_of_ble_eq_true rfl⟩ rfl hl.1 rfl (Nat.le_of_ble_eq_true rfl) dX13_addReed_1 ⟨Nat.le_of_ble_eq_true rfl, Nat.le_of_ble_eq_true rfl⟩ (fun w1 H locs hM hw => ?_)
  obtain ⟨hn_this, hfr⟩ := hw
  have hp_this := hn_this
  have hF := hF.tr (hfr.wide (by omega) (by omega))
  refine lv_aload_n hx hb dX13_addReed_4 rfl (lv_at hl 0 rfl) ?_
  refine lv_aload_n hx hb dX13_addReed_5 rfl (lv_at hl 0 rfl) ?_
  refine lv_iload_n hx hb dX13_addReed_6 rfl (lv_at hl 1 rfl) ?_
  refine lv_iload_n hx hb dX13_addReed_7 rfl (lv_at hl 2 rfl) ?_
  obtain ⟨q8, hq8, hf⟩ := mm_bd hf
  refine mm_Vi (rest := [.ref b]) hC hM (c_X13_grows l hq8 hp_this) q7_102 q1_12 ykX13_grows q7_99 q7_101 qp_b099d306 hp_this.1 rfl ⟨rfl, rfl⟩ ⟨Nat.le_of_ble_eq_true rfl, Nat.le_of_ble_eq_true rfl⟩ rfl hl.1 rfl (Nat.le_of_ble_eq_true rfl) dX13_addReed_8 ⟨Nat.le_of_ble_eq_true rfl, Nat.le_of_ble_eq_true rfl⟩ (fun r w8 H locs hM hw => ?_)
  obtain ⟨hr, hn_this, hfr⟩ := hw
  rw [hr]
  have hp_this := hn_this
  have hF := hF.tr (hfr.wide (by omega) (by omega))
  obtain ⟨q11, hq11, hf⟩ := mm_bd hf
  refine mm_Vi (rest := []) hC hM (c_X13_ends l hq11 hp_this) q7_133 q1_12 ykX13_ends q7_130 q7_132 qp_952383d2 hp_this.1 rfl ⟨rfl, rfl⟩ ⟨Nat.le_of_ble_eq_true rfl, Nat.le_of_ble_eq_true rfl⟩ rfl hl.1 rfl (Nat.le_of_ble_eq_true rfl) dX13_addReed_11 ⟨Nat.le_of_ble_eq_true rfl, Nat.le_of_ble_eq_true rfl⟩ (fun r w11 H locs hM hw => ?_)
  obtain ⟨hr, hn_this, hfr⟩ := hw
  rw [hr]
  have hp_this := hn_this
  have hF := hF.tr (hfr.wide (by omega) (by omega))
  cases hf
  exact hret hM dX13_addReed_14 rfl ⟨rfl, hp_this, hF⟩
def f_X13_broken_L4 (v : Nat → Int32) : Nat → (Int32) → (Int32) → Option (Int32)
  | 0, _, _ => none
  | n + 1, x1, x2 => if 81 ≤ x2 then some x1 else mm_g (mm_ck (7 + x2) 238) (if (v (7 + x2).toNatClampNeg) = 2 then f_X13_broken_L4 v n (x1 + 1) (x2 + 1) else f_X13_broken_L4 v n (x1 + 0) (x2 + 1))
def f_X13_broken (K : Nat) (v : Nat → Int32) : Option (Int32) := (f_X13_broken_L4 v K 0 0).bind fun q4 => some q4
set_option maxHeartbeats 4000000 in
set_option maxRecDepth 100000 in
theorem c_X13_broken (l : Launch) {G : mm_G} {K : Nat} {w : va_W} {sz : Nat} {b : Nat} {thrown : Int32} {changes : Int32} {errorAt : Int32} {failedAt : Int32} {isSaved : Int32} {v : Nat → Int32} {before : Nat → Int32} {saved : Nat → Int32} {past : Nat → Int32} {far : Nat → Int32} {scratch : Nat → Int32} {best : Nat → Int32} {thenX : Int32} {thenY : Int32} {thenMet : Int32} {text : Nat → Int32} {line : Nat → Int32} {isLeft : Nat → Int32} {words : Nat → Int32} {wordAt : Nat → Int32} {textN : Int32} {hereP : Int32} {endP : Int32} {lineN : Int32} {isWrong : Int32} {isDoing : Int32} {X : Int32} (hf : f_X13_broken K v = some X) (hp_this : At13 G w b thrown changes errorAt failedAt isSaved v before saved past far scratch best thenX thenY thenMet text line isLeft words wordAt textN hereP endP lineN isWrong isDoing) : Met l yX13_broken (Cond.code yX13_broken cX13_broken 3 (some .int) :: gAll) ({ frames := 0, cells := 0, slots := 0, locals := 0 }) (va_Pc [.ref b] (mm_Pre G w sz)) (mm_Qi G w sz (fun r w' => r = X ∧ w' = w)) 0 0 (va_A w sz) := by
  refine mm_headI [.ref b] (by decide +kernel) rfl (Nat.le_of_ble_eq_true rfl) ?_
  intro p e s m args below meth c A Q hsz hC hM hret ls hl
  have hx := hC.1.1
  have hb := hC.1.2.1
  have hl : lv_has ls 3 [(0, .ref b)] := hl
  rw [f_X13_broken] at hf
  refine lv_iconst (v := 0) hx hb dX13_broken_0 (by decide) ?_
  refine lv_istore_n (lv' := [(1, .int 0), (0, .ref b)]) hx hb dX13_broken_1 rfl hl (by decide) rfl (fun ls hl => ?_)
  refine lv_iconst (v := 0) hx hb dX13_broken_2 (by decide) ?_
  refine lv_istore_n (lv' := [(2, .int 0), (1, .int 0), (0, .ref b)]) hx hb dX13_broken_3 rfl hl (by decide) rfl (fun ls hl => ?_)
  have L4 : ∀ (n : Nat) (L4_x1 : Int32) (L4_x2 : Int32) (X : Int32), f_X13_broken_L4 v n L4_x1 L4_x2 = some X → ∀ (H : Heap) (locs : List Loc), mm_S G A s.heap w H locs → ∀ (ls : Array Slot), lv_has ls 3 [(0, .ref b), (1, .int L4_x1), (2, .int L4_x2)] → (∀ (H : Heap) (locs : List Loc), mm_S G A s.heap w H locs → ∀ (ls : Array Slot), lv_has ls 3 [(1, .int X)] → W p l e ({ frames := 0, cells := 0, slots := 0, locals := 0 } : Room) s m args below meth c H locs 0 0 Q (F0 m 37 ls [])) → W p l e ({ frames := 0, cells := 0, slots := 0, locals := 0 } : Room) s m args below meth c H locs 0 0 Q (F0 m 4 ls []) := by
    intro n
    induction n with
    | zero => intro L4_x1 L4_x2 X hf; cases hf
    | succ n ih =>
      intro L4_x1 L4_x2 X hf H locs hM ls hl hk
      rw [f_X13_broken_L4] at hf
      refine lv_iload_n hx hb dX13_broken_4 rfl (lv_at hl 2 rfl) ?_
      refine lv_bipush (v := 81) hx hb dX13_broken_5 (by decide) ?_
      refine lv_icmp_ge (tgt := 37) hx hb dX13_broken_7 (by decide) (fun hcd => ?_) (fun hcd => ?_)
      · rw [if_pos hcd] at hf
        cases hf
        exact hk _ _ hM _ (lv_sub hl [1] rfl)
      · rw [if_neg hcd] at hf
        refine lv_iload_n hx hb dX13_broken_10 rfl (lv_at hl 1 rfl) ?_
        refine lv_aload_n hx hb dX13_broken_11 rfl (lv_at hl 0 rfl) ?_
        refine mm_get hC hM (k := 5) hp_this.1 rfl inAX13 (by decide) q7_10 rfl dX13_broken_12 ?_
        refine lv_bipush (v := 7) hx hb dX13_broken_15 (by decide) ?_
        refine lv_iload_n hx hb dX13_broken_17 rfl (lv_at hl 2 rfl) ?_
        refine lv_iadd hx hb dX13_broken_18 ?_
        obtain ⟨hg19, hf⟩ := mm_gd hf
        refine mm_iald hC hM (hp_this.2.1) hg19 dX13_broken_19 ?_
        refine lv_iconst (v := 2) hx hb dX13_broken_20 (by decide) ?_
        refine lv_icmp_ne (tgt := 28) hx hb dX13_broken_21 (by decide) (fun hcd => ?_) (fun hcd => ?_)
        · rw [if_neg hcd] at hf
          refine lv_iconst (v := 0) hx hb dX13_broken_28 (by decide) ?_
          refine lv_iadd hx hb dX13_broken_29 ?_
          refine lv_istore_n (lv' := [(1, .int (L4_x1 + 0)), (0, .ref b), (2, .int L4_x2)]) hx hb dX13_broken_30 rfl hl (by decide) rfl (fun ls hl => ?_)
          refine lv_iinc (v := (L4_x2 + 1)) (lv' := [(2, .int (L4_x2 + 1)), (1, .int (L4_x1 + 0)), (0, .ref b)]) hx hb dX13_broken_31 hl (k := 2) rfl rfl (by decide) rfl (fun ls hl => ?_)
          refine lv_goto (tgt := 4) hx hb dX13_broken_34 (by decide) ?_
          exact ih _ _ _ hf _ _ hM _ (lv_sub hl [2, 1, 0] rfl) hk
        · rw [if_pos hcd] at hf
          refine lv_iconst (v := 1) hx hb dX13_broken_24 (by decide) ?_
          refine lv_goto (tgt := 29) hx hb dX13_broken_25 (by decide) ?_
          refine lv_iadd hx hb dX13_broken_29 ?_
          refine lv_istore_n (lv' := [(1, .int (L4_x1 + 1)), (0, .ref b), (2, .int L4_x2)]) hx hb dX13_broken_30 rfl hl (by decide) rfl (fun ls hl => ?_)
          refine lv_iinc (v := (L4_x2 + 1)) (lv' := [(2, .int (L4_x2 + 1)), (1, .int (L4_x1 + 1)), (0, .ref b)]) hx hb dX13_broken_31 hl (k := 2) rfl rfl (by decide) rfl (fun ls hl => ?_)
          refine lv_goto (tgt := 4) hx hb dX13_broken_34 (by decide) ?_
          exact ih _ _ _ hf _ _ hM _ (lv_sub hl [2, 1, 0] rfl) hk
  obtain ⟨q4, hq4, hf⟩ := mm_bd hf
  refine L4 K _ _ _ hq4 _ _ hM _ (lv_sub hl [2, 1, 0] rfl) (fun H locs hM ls hl => ?_)
  refine lv_iload_n hx hb dX13_broken_37 rfl (lv_at hl 0 rfl) ?_
  cases hf
  exact hret hM dX13_broken_38 rfl ⟨rfl, rfl⟩
def f_X13_breaks (K : Nat) (thrown : Int32) (v : Nat → Int32) (x1 : Int32) (x2 : Int32) : Option (Int32 × Int32 × (Nat → Int32)) := (f_X13_isCell x1 x2).bind fun q2 => if q2 = 0 then (f_X13_fail 1).bind fun q10 => some (q10.1, q10.2, v) else (f_X13_cell x1 x2).bind fun q22 => mm_g (mm_ck (7 + q22) 238) (if (v (7 + q22).toNatClampNeg) = 0 then (f_X13_fail 2).bind fun q34 => some (q34.1, q34.2, v) else if (v (7 + q22).toNatClampNeg) = 2 then (f_X13_fail 3).bind fun q45 => some (q45.1, q45.2, v) else (f_X13_cell x1 x2).bind fun q57 => mm_g (mm_ck (7 + q57) 238) ((f_X13_broken K (upd v ((7 + q57).toNatClampNeg) 2)).bind fun q64 => some (q64, thrown, (upd v ((7 + q57).toNatClampNeg) 2))))
set_option maxHeartbeats 4000000 in
set_option maxRecDepth 100000 in
theorem c_X13_breaks (l : Launch) {G : mm_G} {K : Nat} {w : va_W} {sz : Nat} {b : Nat} {thrown : Int32} {changes : Int32} {errorAt : Int32} {failedAt : Int32} {isSaved : Int32} {v : Nat → Int32} {before : Nat → Int32} {saved : Nat → Int32} {past : Nat → Int32} {far : Nat → Int32} {scratch : Nat → Int32} {best : Nat → Int32} {thenX : Int32} {thenY : Int32} {thenMet : Int32} {text : Nat → Int32} {line : Nat → Int32} {isLeft : Nat → Int32} {words : Nat → Int32} {wordAt : Nat → Int32} {textN : Int32} {hereP : Int32} {endP : Int32} {lineN : Int32} {isWrong : Int32} {isDoing : Int32} {x1 : Int32} {x2 : Int32} {X : Int32 × Int32 × (Nat → Int32)} (hf : f_X13_breaks K thrown v x1 x2 = some X) (hp_this : At13 G w b thrown changes errorAt failedAt isSaved v before saved past far scratch best thenX thenY thenMet text line isLeft words wordAt textN hereP endP lineN isWrong isDoing) : Met l yX13_breaks (Cond.code yX13_breaks cX13_breaks 4 (some .int) :: gAll) ({ frames := 2, cells := 0, slots := 0, locals := 43 }) (va_Pc [.ref b, .int x1, .int x2] (mm_Pre G w sz)) (mm_Qi G w sz (fun r w' => r = X.1 ∧ At13 G w' b X.2.1 changes errorAt failedAt isSaved X.2.2 before saved past far scratch best thenX thenY thenMet text line isLeft words wordAt textN hereP endP lineN isWrong isDoing ∧ mm_fr w w' b (b + 13))) 0 0 (va_A w sz) := by
  refine mm_headI [.ref b, .int x1, .int x2] (by decide +kernel) rfl (Nat.le_of_ble_eq_true rfl) ?_
  intro p e s m args below meth c A Q hsz hC hM hret ls hl
  have hx := hC.1.1
  have hb := hC.1.2.1
  have hl : lv_has ls 4 [(0, .ref b), (1, .int x1), (2, .int x2)] := hl
  have hF : mm_fr w w b (b + 13) := mm_fr.rf
  rw [f_X13_breaks] at hf
  refine lv_iload_n hx hb dX13_breaks_0 rfl (lv_at hl 1 rfl) ?_
  refine lv_iload_n hx hb dX13_breaks_1 rfl (lv_at hl 2 rfl) ?_
  obtain ⟨q2, hq2, hf⟩ := mm_bd hf
  refine mm_Si (rest := []) hC hM (c_X13_isCell l hq2) q7_105 q1_12 ykX13_isCell q7_103 q7_104 ⟨rfl, rfl⟩ ⟨Nat.le_of_ble_eq_true rfl, Nat.le_of_ble_eq_true rfl⟩ rfl hl.1 rfl (Nat.le_of_ble_eq_true rfl) dX13_breaks_2 ⟨Nat.le_of_ble_eq_true rfl, Nat.le_of_ble_eq_true rfl⟩ (fun r w2 H locs hM hw => ?_)
  obtain ⟨hr, hw⟩ := hw
  rw [hr]
  rw [hw] at hM
  refine lv_if_ne (tgt := 14) hx hb dX13_breaks_5 (by decide) (fun hcd => ?_) (fun hcd => ?_)
  · rw [if_neg hcd] at hf
    refine lv_aload_n hx hb dX13_breaks_14 rfl (lv_at hl 0 rfl) ?_
    refine mm_get hC hM (k := 5) hp_this.1 rfl inAX13 (by decide) q7_10 rfl dX13_breaks_15 ?_
    refine lv_bipush (v := 7) hx hb dX13_breaks_18 (by decide) ?_
    refine lv_iload_n hx hb dX13_breaks_20 rfl (lv_at hl 1 rfl) ?_
    refine lv_iload_n hx hb dX13_breaks_21 rfl (lv_at hl 2 rfl) ?_
    obtain ⟨q22, hq22, hf⟩ := mm_bd hf
    refine mm_Si (rest := [.int 7, .ref (b + 1)]) hC hM (c_X13_cell l hq22) q7_115 q1_12 ykX13_cell q7_113 q7_114 ⟨rfl, rfl⟩ ⟨Nat.le_of_ble_eq_true rfl, Nat.le_of_ble_eq_true rfl⟩ rfl hl.1 rfl (Nat.le_of_ble_eq_true rfl) dX13_breaks_22 ⟨Nat.le_of_ble_eq_true rfl, Nat.le_of_ble_eq_true rfl⟩ (fun r w22 H locs hM hw => ?_)
    obtain ⟨hr, hw⟩ := hw
    rw [hr]
    rw [hw] at hM
    refine lv_iadd hx hb dX13_breaks_25 ?_
    obtain ⟨hg26, hf⟩ := mm_gd hf
    refine mm_iald hC hM (hp_this.2.1) hg26 dX13_breaks_26 ?_
    refine lv_istore_n (lv' := [(3, .int (v (7 + q22).toNatClampNeg)), (0, .ref b), (1, .int x1), (2, .int x2)]) hx hb dX13_breaks_27 rfl hl (by decide) rfl (fun ls hl => ?_)
    refine lv_iload_n hx hb dX13_breaks_28 rfl (lv_at hl 0 rfl) ?_
    refine lv_if_ne (tgt := 38) hx hb dX13_breaks_29 (by decide) (fun hcd => ?_) (fun hcd => ?_)
    · rw [if_neg hcd] at hf
      refine lv_iload_n hx hb dX13_breaks_38 rfl (lv_at hl 0 rfl) ?_
      refine lv_iconst (v := 2) hx hb dX13_breaks_39 (by decide) ?_
      refine lv_icmp_ne (tgt := 49) hx hb dX13_breaks_40 (by decide) (fun hcd => ?_) (fun hcd => ?_)
      · rw [if_neg hcd] at hf
        refine lv_aload_n hx hb dX13_breaks_49 rfl (lv_at hl 1 rfl) ?_
        refine mm_get hC hM (k := 5) hp_this.1 rfl inAX13 (by decide) q7_10 rfl dX13_breaks_50 ?_
        refine lv_bipush (v := 7) hx hb dX13_breaks_53 (by decide) ?_
        refine lv_iload_n hx hb dX13_breaks_55 rfl (lv_at hl 2 rfl) ?_
        refine lv_iload_n hx hb dX13_breaks_56 rfl (lv_at hl 3 rfl) ?_
        obtain ⟨q57, hq57, hf⟩ := mm_bd hf
        refine mm_Si (rest := [.int 7, .ref (b + 1)]) hC hM (c_X13_cell l hq57) q7_115 q1_12 ykX13_cell q7_113 q7_114 ⟨rfl, rfl⟩ ⟨Nat.le_of_ble_eq_true rfl, Nat.le_of_ble_eq_true rfl⟩ rfl hl.1 rfl (Nat.le_of_ble_eq_true rfl) dX13_breaks_57 ⟨Nat.le_of_ble_eq_true rfl, Nat.le_of_ble_eq_true rfl⟩ (fun r w57 H locs hM hw => ?_)
        obtain ⟨hr, hw⟩ := hw
        rw [hr]
        rw [hw] at hM
        refine lv_iadd hx hb dX13_breaks_60 ?_
        refine lv_iconst (v := 2) hx hb dX13_breaks_61 (by decide) ?_
        obtain ⟨hg62, hf⟩ := mm_gd hf
        refine mm_iast hC hM (hp_this.2.1) hg62 dX13_breaks_62 (fun w62 H locs hM hm => ?_)
        have hp_this : At13 G w62 b thrown changes errorAt failedAt isSaved (upd v ((7 + q57).toNatClampNeg) 2) before saved past far scratch best thenX thenY thenMet text line isLeft words wordAt textN hereP endP lineN isWrong isDoing := ⟨hm.keep (hp_this.1) (by omega), hm.1, hm.keep (hp_this.2.2.1) (by omega), hm.keep (hp_this.2.2.2.1) (by omega), hm.keep (hp_this.2.2.2.2.1) (by omega), hm.keep (hp_this.2.2.2.2.2.1) (by omega), hm.keep (hp_this.2.2.2.2.2.2.1) (by omega), hm.keep (hp_this.2.2.2.2.2.2.2.1) (by omega), hm.keep (hp_this.2.2.2.2.2.2.2.2.1) (by omega), hm.keep (hp_this.2.2.2.2.2.2.2.2.2.1) (by omega), hm.keep (hp_this.2.2.2.2.2.2.2.2.2.2.1) (by omega), hm.keep (hp_this.2.2.2.2.2.2.2.2.2.2.2.1) (by omega), hm.keep (hp_this.2.2.2.2.2.2.2.2.2.2.2.2) (by omega)⟩
        have hF := hF.tr (hm.fr (by omega) (by omega))
        refine lv_aload_n hx hb dX13_breaks_63 rfl (lv_at hl 1 rfl) ?_
        obtain ⟨q64, hq64, hf⟩ := mm_bd hf
        refine mm_Vi (rest := []) hC hM (c_X13_broken l hq64 hp_this) q7_145 q1_12 ykX13_broken q7_142 q7_144 qp_f245e903 hp_this.1 rfl ⟨rfl, rfl⟩ ⟨Nat.le_of_ble_eq_true rfl, Nat.le_of_ble_eq_true rfl⟩ rfl hl.1 rfl (Nat.le_of_ble_eq_true rfl) dX13_breaks_64 ⟨Nat.le_of_ble_eq_true rfl, Nat.le_of_ble_eq_true rfl⟩ (fun r w64 H locs hM hw => ?_)
        obtain ⟨hr, hw⟩ := hw
        rw [hr]
        rw [hw] at hM
        cases hf
        exact hret hM dX13_breaks_67 rfl ⟨rfl, hp_this, hF⟩
      · rw [if_pos hcd] at hf
        refine lv_aload_n hx hb dX13_breaks_43 rfl (lv_at hl 1 rfl) ?_
        refine lv_iconst (v := 3) hx hb dX13_breaks_44 (by decide) ?_
        obtain ⟨q45, hq45, hf⟩ := mm_bd hf
        refine mm_Vi (rest := []) hC hM (c_X13_fail l hq45 hp_this) q7_112 q1_12 ykX13_fail q7_109 q7_111 qp_bcc4f98e hp_this.1 rfl ⟨rfl, rfl⟩ ⟨Nat.le_of_ble_eq_true rfl, Nat.le_of_ble_eq_true rfl⟩ rfl hl.1 rfl (Nat.le_of_ble_eq_true rfl) dX13_breaks_45 ⟨Nat.le_of_ble_eq_true rfl, Nat.le_of_ble_eq_true rfl⟩ (fun r w45 H locs hM hw => ?_)
        obtain ⟨hr, hn_this, hfr⟩ := hw
        rw [hr]
        have hp_this := hn_this
        have hF := hF.tr (hfr.wide (by omega) (by omega))
        cases hf
        exact hret hM dX13_breaks_48 rfl ⟨rfl, hp_this, hF⟩
    · rw [if_pos hcd] at hf
      refine lv_aload_n hx hb dX13_breaks_32 rfl (lv_at hl 1 rfl) ?_
      refine lv_iconst (v := 2) hx hb dX13_breaks_33 (by decide) ?_
      obtain ⟨q34, hq34, hf⟩ := mm_bd hf
      refine mm_Vi (rest := []) hC hM (c_X13_fail l hq34 hp_this) q7_112 q1_12 ykX13_fail q7_109 q7_111 qp_bcc4f98e hp_this.1 rfl ⟨rfl, rfl⟩ ⟨Nat.le_of_ble_eq_true rfl, Nat.le_of_ble_eq_true rfl⟩ rfl hl.1 rfl (Nat.le_of_ble_eq_true rfl) dX13_breaks_34 ⟨Nat.le_of_ble_eq_true rfl, Nat.le_of_ble_eq_true rfl⟩ (fun r w34 H locs hM hw => ?_)
      obtain ⟨hr, hn_this, hfr⟩ := hw
      rw [hr]
      have hp_this := hn_this
      have hF := hF.tr (hfr.wide (by omega) (by omega))
      cases hf
      exact hret hM dX13_breaks_37 rfl ⟨rfl, hp_this, hF⟩
  · rw [if_pos hcd] at hf
    refine lv_aload_n hx hb dX13_breaks_8 rfl (lv_at hl 0 rfl) ?_
    refine lv_iconst (v := 1) hx hb dX13_breaks_9 (by decide) ?_
    obtain ⟨q10, hq10, hf⟩ := mm_bd hf
    refine mm_Vi (rest := []) hC hM (c_X13_fail l hq10 hp_this) q7_112 q1_12 ykX13_fail q7_109 q7_111 qp_bcc4f98e hp_this.1 rfl ⟨rfl, rfl⟩ ⟨Nat.le_of_ble_eq_true rfl, Nat.le_of_ble_eq_true rfl⟩ rfl hl.1 rfl (Nat.le_of_ble_eq_true rfl) dX13_breaks_10 ⟨Nat.le_of_ble_eq_true rfl, Nat.le_of_ble_eq_true rfl⟩ (fun r w10 H locs hM hw => ?_)
    obtain ⟨hr, hn_this, hfr⟩ := hw
    rw [hr]
    have hp_this := hn_this
    have hF := hF.tr (hfr.wide (by omega) (by omega))
    cases hf
    exact hret hM dX13_breaks_13 rfl ⟨rfl, hp_this, hF⟩
def f_X13_breakReed (K : Nat) (changes : Int32) (v : Nat → Int32) (before : Nat → Int32) (past : Nat → Int32) (x1 : Int32) (x2 : Int32) : Option (Int32 × Int32 × Int32 × (Nat → Int32) × (Nat → Int32) × (Nat → Int32)) := (f_X13_begins K v before).bind fun q1 => (f_X13_breaks K q1.1 v x1 x2).bind fun q8 => (f_X13_ends K q8.2.1 changes q8.2.2 q1.2 past q8.1).bind fun q11 => some (q11.1, q8.2.1, q11.2.1, q11.2.2.1, q1.2, q11.2.2.2)
set_option maxHeartbeats 4000000 in
set_option maxRecDepth 100000 in
theorem c_X13_breakReed (l : Launch) {G : mm_G} {K : Nat} {w : va_W} {sz : Nat} {b : Nat} {thrown : Int32} {changes : Int32} {errorAt : Int32} {failedAt : Int32} {isSaved : Int32} {v : Nat → Int32} {before : Nat → Int32} {saved : Nat → Int32} {past : Nat → Int32} {far : Nat → Int32} {scratch : Nat → Int32} {best : Nat → Int32} {thenX : Int32} {thenY : Int32} {thenMet : Int32} {text : Nat → Int32} {line : Nat → Int32} {isLeft : Nat → Int32} {words : Nat → Int32} {wordAt : Nat → Int32} {textN : Int32} {hereP : Int32} {endP : Int32} {lineN : Int32} {isWrong : Int32} {isDoing : Int32} {x1 : Int32} {x2 : Int32} {X : Int32 × Int32 × Int32 × (Nat → Int32) × (Nat → Int32) × (Nat → Int32)} (hf : f_X13_breakReed K changes v before past x1 x2 = some X) (hp_this : At13 G w b thrown changes errorAt failedAt isSaved v before saved past far scratch best thenX thenY thenMet text line isLeft words wordAt textN hereP endP lineN isWrong isDoing) : Met l yX13_breakReed (Cond.code yX13_breakReed cX13_breakReed 3 (some .int) :: gAll) ({ frames := 3, cells := 0, slots := 0, locals := 66 }) (va_Pc [.ref b, .int x1, .int x2] (mm_Pre G w sz)) (mm_Qi G w sz (fun r w' => r = X.1 ∧ At13 G w' b X.2.1 X.2.2.1 errorAt failedAt isSaved X.2.2.2.1 X.2.2.2.2.1 saved X.2.2.2.2.2 far scratch best thenX thenY thenMet text line isLeft words wordAt textN hereP endP lineN isWrong isDoing ∧ mm_fr w w' b (b + 13))) 0 0 (va_A w sz) := by
  refine mm_headI [.ref b, .int x1, .int x2] (by decide +kernel) rfl (Nat.le_of_ble_eq_true rfl) ?_
  intro p e s m args below meth c A Q hsz hC hM hret ls hl
  have hx := hC.1.1
  have hb := hC.1.2.1
  have hl : lv_has ls 3 [(0, .ref b), (1, .int x1), (2, .int x2)] := hl
  have hF : mm_fr w w b (b + 13) := mm_fr.rf
  rw [f_X13_breakReed] at hf
  refine lv_aload_n hx hb dX13_breakReed_0 rfl (lv_at hl 0 rfl) ?_
  obtain ⟨q1, hq1, hf⟩ := mm_bd hf
  refine mm_Vv (rest := []) hC hM (c_X13_begins l hq1 hp_this) q7_95 q1_12 ykX13_begins q7_92 q7_94 qp_0e68fe50 hp_this.1 rfl ⟨rfl, rfl⟩ ⟨Nat.le_of_ble_eq_true rfl, Nat.le_of_ble_eq_true rfl⟩ rfl hl.1 rfl (Nat.le_of_ble_eq_true rfl) dX13_breakReed_1 ⟨Nat.le_of_ble_eq_true rfl, Nat.le_of_ble_eq_true rfl⟩ (fun w1 H locs hM hw => ?_)
  obtain ⟨hn_this, hfr⟩ := hw
  have hp_this := hn_this
  have hF := hF.tr (hfr.wide (by omega) (by omega))
  refine lv_aload_n hx hb dX13_breakReed_4 rfl (lv_at hl 0 rfl) ?_
  refine lv_aload_n hx hb dX13_breakReed_5 rfl (lv_at hl 0 rfl) ?_
  refine lv_iload_n hx hb dX13_breakReed_6 rfl (lv_at hl 1 rfl) ?_
  refine lv_iload_n hx hb dX13_breakReed_7 rfl (lv_at hl 2 rfl) ?_
  obtain ⟨q8, hq8, hf⟩ := mm_bd hf
  refine mm_Vi (rest := [.ref b]) hC hM (c_X13_breaks l hq8 hp_this) q7_141 q1_12 ykX13_breaks q7_138 q7_140 qp_d566fdeb hp_this.1 rfl ⟨rfl, rfl⟩ ⟨Nat.le_of_ble_eq_true rfl, Nat.le_of_ble_eq_true rfl⟩ rfl hl.1 rfl (Nat.le_of_ble_eq_true rfl) dX13_breakReed_8 ⟨Nat.le_of_ble_eq_true rfl, Nat.le_of_ble_eq_true rfl⟩ (fun r w8 H locs hM hw => ?_)
  obtain ⟨hr, hn_this, hfr⟩ := hw
  rw [hr]
  have hp_this := hn_this
  have hF := hF.tr (hfr.wide (by omega) (by omega))
  obtain ⟨q11, hq11, hf⟩ := mm_bd hf
  refine mm_Vi (rest := []) hC hM (c_X13_ends l hq11 hp_this) q7_133 q1_12 ykX13_ends q7_130 q7_132 qp_952383d2 hp_this.1 rfl ⟨rfl, rfl⟩ ⟨Nat.le_of_ble_eq_true rfl, Nat.le_of_ble_eq_true rfl⟩ rfl hl.1 rfl (Nat.le_of_ble_eq_true rfl) dX13_breakReed_11 ⟨Nat.le_of_ble_eq_true rfl, Nat.le_of_ble_eq_true rfl⟩ (fun r w11 H locs hM hw => ?_)
  obtain ⟨hr, hn_this, hfr⟩ := hw
  rw [hr]
  have hp_this := hn_this
  have hF := hF.tr (hfr.wide (by omega) (by omega))
  cases hf
  exact hret hM dX13_breakReed_14 rfl ⟨rfl, hp_this, hF⟩
def f_X13_clears (thrown : Int32) (v : Nat → Int32) (x1 : Int32) (x2 : Int32) : Option (Int32 × Int32 × (Nat → Int32)) := (f_X13_isCell x1 x2).bind fun q2 => if q2 = 0 then (f_X13_fail 1).bind fun q10 => some (q10.1, q10.2, v) else (f_X13_cell x1 x2).bind fun q22 => mm_g (mm_ck (7 + q22) 238) (if (v (7 + q22).toNatClampNeg) = 0 then (f_X13_fail 2).bind fun q32 => some (q32.1, q32.2, v) else (f_X13_cell x1 x2).bind fun q44 => mm_g (mm_ck (7 + q44) 238) (some (((upd (upd v ((7 + q44).toNatClampNeg) 0) 0 (((upd v ((7 + q44).toNatClampNeg) 0) 0) - 1)) 0), thrown, (upd (upd v ((7 + q44).toNatClampNeg) 0) 0 (((upd v ((7 + q44).toNatClampNeg) 0) 0) - 1)))))
set_option maxHeartbeats 4000000 in
set_option maxRecDepth 100000 in
theorem c_X13_clears (l : Launch) {G : mm_G} {w : va_W} {sz : Nat} {b : Nat} {thrown : Int32} {changes : Int32} {errorAt : Int32} {failedAt : Int32} {isSaved : Int32} {v : Nat → Int32} {before : Nat → Int32} {saved : Nat → Int32} {past : Nat → Int32} {far : Nat → Int32} {scratch : Nat → Int32} {best : Nat → Int32} {thenX : Int32} {thenY : Int32} {thenMet : Int32} {text : Nat → Int32} {line : Nat → Int32} {isLeft : Nat → Int32} {words : Nat → Int32} {wordAt : Nat → Int32} {textN : Int32} {hereP : Int32} {endP : Int32} {lineN : Int32} {isWrong : Int32} {isDoing : Int32} {x1 : Int32} {x2 : Int32} {X : Int32 × Int32 × (Nat → Int32)} (hf : f_X13_clears thrown v x1 x2 = some X) (hp_this : At13 G w b thrown changes errorAt failedAt isSaved v before saved past far scratch best thenX thenY thenMet text line isLeft words wordAt textN hereP endP lineN isWrong isDoing) : Met l yX13_clears (Cond.code yX13_clears cX13_clears 3 (some .int) :: gAll) ({ frames := 2, cells := 0, slots := 0, locals := 43 }) (va_Pc [.ref b, .int x1, .int x2] (mm_Pre G w sz)) (mm_Qi G w sz (fun r w' => r = X.1 ∧ At13 G w' b X.2.1 changes errorAt failedAt isSaved X.2.2 before saved past far scratch best thenX thenY thenMet text line isLeft words wordAt textN hereP endP lineN isWrong isDoing ∧ mm_fr w w' b (b + 13))) 0 0 (va_A w sz) := by
  refine mm_headI [.ref b, .int x1, .int x2] (by decide +kernel) rfl (Nat.le_of_ble_eq_true rfl) ?_
  intro p e s m args below meth c A Q hsz hC hM hret ls hl
  have hx := hC.1.1
  have hb := hC.1.2.1
  have hl : lv_has ls 3 [(0, .ref b), (1, .int x1), (2, .int x2)] := hl
  have hF : mm_fr w w b (b + 13) := mm_fr.rf
  rw [f_X13_clears] at hf
  refine lv_iload_n hx hb dX13_clears_0 rfl (lv_at hl 1 rfl) ?_
  refine lv_iload_n hx hb dX13_clears_1 rfl (lv_at hl 2 rfl) ?_
  obtain ⟨q2, hq2, hf⟩ := mm_bd hf
  refine mm_Si (rest := []) hC hM (c_X13_isCell l hq2) q7_105 q1_12 ykX13_isCell q7_103 q7_104 ⟨rfl, rfl⟩ ⟨Nat.le_of_ble_eq_true rfl, Nat.le_of_ble_eq_true rfl⟩ rfl hl.1 rfl (Nat.le_of_ble_eq_true rfl) dX13_clears_2 ⟨Nat.le_of_ble_eq_true rfl, Nat.le_of_ble_eq_true rfl⟩ (fun r w2 H locs hM hw => ?_)
  obtain ⟨hr, hw⟩ := hw
  rw [hr]
  rw [hw] at hM
  refine lv_if_ne (tgt := 14) hx hb dX13_clears_5 (by decide) (fun hcd => ?_) (fun hcd => ?_)
  · rw [if_neg hcd] at hf
    refine lv_aload_n hx hb dX13_clears_14 rfl (lv_at hl 0 rfl) ?_
    refine mm_get hC hM (k := 5) hp_this.1 rfl inAX13 (by decide) q7_10 rfl dX13_clears_15 ?_
    refine lv_bipush (v := 7) hx hb dX13_clears_18 (by decide) ?_
    refine lv_iload_n hx hb dX13_clears_20 rfl (lv_at hl 1 rfl) ?_
    refine lv_iload_n hx hb dX13_clears_21 rfl (lv_at hl 2 rfl) ?_
    obtain ⟨q22, hq22, hf⟩ := mm_bd hf
    refine mm_Si (rest := [.int 7, .ref (b + 1)]) hC hM (c_X13_cell l hq22) q7_115 q1_12 ykX13_cell q7_113 q7_114 ⟨rfl, rfl⟩ ⟨Nat.le_of_ble_eq_true rfl, Nat.le_of_ble_eq_true rfl⟩ rfl hl.1 rfl (Nat.le_of_ble_eq_true rfl) dX13_clears_22 ⟨Nat.le_of_ble_eq_true rfl, Nat.le_of_ble_eq_true rfl⟩ (fun r w22 H locs hM hw => ?_)
    obtain ⟨hr, hw⟩ := hw
    rw [hr]
    rw [hw] at hM
    refine lv_iadd hx hb dX13_clears_25 ?_
    obtain ⟨hg26, hf⟩ := mm_gd hf
    refine mm_iald hC hM (hp_this.2.1) hg26 dX13_clears_26 ?_
    refine lv_if_ne (tgt := 36) hx hb dX13_clears_27 (by decide) (fun hcd => ?_) (fun hcd => ?_)
    · rw [if_neg hcd] at hf
      refine lv_aload_n hx hb dX13_clears_36 rfl (lv_at hl 0 rfl) ?_
      refine mm_get hC hM (k := 5) hp_this.1 rfl inAX13 (by decide) q7_10 rfl dX13_clears_37 ?_
      refine lv_bipush (v := 7) hx hb dX13_clears_40 (by decide) ?_
      refine lv_iload_n hx hb dX13_clears_42 rfl (lv_at hl 1 rfl) ?_
      refine lv_iload_n hx hb dX13_clears_43 rfl (lv_at hl 2 rfl) ?_
      obtain ⟨q44, hq44, hf⟩ := mm_bd hf
      refine mm_Si (rest := [.int 7, .ref (b + 1)]) hC hM (c_X13_cell l hq44) q7_115 q1_12 ykX13_cell q7_113 q7_114 ⟨rfl, rfl⟩ ⟨Nat.le_of_ble_eq_true rfl, Nat.le_of_ble_eq_true rfl⟩ rfl hl.1 rfl (Nat.le_of_ble_eq_true rfl) dX13_clears_44 ⟨Nat.le_of_ble_eq_true rfl, Nat.le_of_ble_eq_true rfl⟩ (fun r w44 H locs hM hw => ?_)
      obtain ⟨hr, hw⟩ := hw
      rw [hr]
      rw [hw] at hM
      refine lv_iadd hx hb dX13_clears_47 ?_
      refine lv_iconst (v := 0) hx hb dX13_clears_48 (by decide) ?_
      obtain ⟨hg49, hf⟩ := mm_gd hf
      refine mm_iast hC hM (hp_this.2.1) hg49 dX13_clears_49 (fun w49 H locs hM hm => ?_)
      have hp_this : At13 G w49 b thrown changes errorAt failedAt isSaved (upd v ((7 + q44).toNatClampNeg) 0) before saved past far scratch best thenX thenY thenMet text line isLeft words wordAt textN hereP endP lineN isWrong isDoing := ⟨hm.keep (hp_this.1) (by omega), hm.1, hm.keep (hp_this.2.2.1) (by omega), hm.keep (hp_this.2.2.2.1) (by omega), hm.keep (hp_this.2.2.2.2.1) (by omega), hm.keep (hp_this.2.2.2.2.2.1) (by omega), hm.keep (hp_this.2.2.2.2.2.2.1) (by omega), hm.keep (hp_this.2.2.2.2.2.2.2.1) (by omega), hm.keep (hp_this.2.2.2.2.2.2.2.2.1) (by omega), hm.keep (hp_this.2.2.2.2.2.2.2.2.2.1) (by omega), hm.keep (hp_this.2.2.2.2.2.2.2.2.2.2.1) (by omega), hm.keep (hp_this.2.2.2.2.2.2.2.2.2.2.2.1) (by omega), hm.keep (hp_this.2.2.2.2.2.2.2.2.2.2.2.2) (by omega)⟩
      have hF := hF.tr (hm.fr (by omega) (by omega))
      refine lv_aload_n hx hb dX13_clears_50 rfl (lv_at hl 0 rfl) ?_
      refine mm_get hC hM (k := 5) hp_this.1 rfl inAX13 (by decide) q7_10 rfl dX13_clears_51 ?_
      refine lv_iconst (v := 0) hx hb dX13_clears_54 (by decide) ?_
      refine lv_dup2_11 hx hb dX13_clears_55 rfl rfl ?_
      refine mm_ialdN (N := 0) hC hM (hp_this.2.1) (by decide) (by unfold vp_in; decide) dX13_clears_56 ?_
      refine lv_iconst (v := 1) hx hb dX13_clears_57 (by decide) ?_
      refine lv_isub hx hb dX13_clears_58 ?_
      refine mm_iastN (N := 0) hC hM (hp_this.2.1) (by decide) (by unfold vp_in; decide) dX13_clears_59 (fun w59 H locs hM hm => ?_)
      have hp_this : At13 G w59 b thrown changes errorAt failedAt isSaved (upd (upd v ((7 + q44).toNatClampNeg) 0) 0 (((upd v ((7 + q44).toNatClampNeg) 0) 0) - 1)) before saved past far scratch best thenX thenY thenMet text line isLeft words wordAt textN hereP endP lineN isWrong isDoing := ⟨hm.keep (hp_this.1) (by omega), hm.1, hm.keep (hp_this.2.2.1) (by omega), hm.keep (hp_this.2.2.2.1) (by omega), hm.keep (hp_this.2.2.2.2.1) (by omega), hm.keep (hp_this.2.2.2.2.2.1) (by omega), hm.keep (hp_this.2.2.2.2.2.2.1) (by omega), hm.keep (hp_this.2.2.2.2.2.2.2.1) (by omega), hm.keep (hp_this.2.2.2.2.2.2.2.2.1) (by omega), hm.keep (hp_this.2.2.2.2.2.2.2.2.2.1) (by omega), hm.keep (hp_this.2.2.2.2.2.2.2.2.2.2.1) (by omega), hm.keep (hp_this.2.2.2.2.2.2.2.2.2.2.2.1) (by omega), hm.keep (hp_this.2.2.2.2.2.2.2.2.2.2.2.2) (by omega)⟩
      have hF := hF.tr (hm.fr (by omega) (by omega))
      refine lv_aload_n hx hb dX13_clears_60 rfl (lv_at hl 0 rfl) ?_
      refine mm_get hC hM (k := 5) hp_this.1 rfl inAX13 (by decide) q7_10 rfl dX13_clears_61 ?_
      refine lv_iconst (v := 0) hx hb dX13_clears_64 (by decide) ?_
      refine mm_ialdN (N := 0) hC hM (hp_this.2.1) (by decide) (by unfold vp_in; decide) dX13_clears_65 ?_
      cases hf
      exact hret hM dX13_clears_66 rfl ⟨rfl, hp_this, hF⟩
    · rw [if_pos hcd] at hf
      refine lv_aload_n hx hb dX13_clears_30 rfl (lv_at hl 0 rfl) ?_
      refine lv_iconst (v := 2) hx hb dX13_clears_31 (by decide) ?_
      obtain ⟨q32, hq32, hf⟩ := mm_bd hf
      refine mm_Vi (rest := []) hC hM (c_X13_fail l hq32 hp_this) q7_112 q1_12 ykX13_fail q7_109 q7_111 qp_bcc4f98e hp_this.1 rfl ⟨rfl, rfl⟩ ⟨Nat.le_of_ble_eq_true rfl, Nat.le_of_ble_eq_true rfl⟩ rfl hl.1 rfl (Nat.le_of_ble_eq_true rfl) dX13_clears_32 ⟨Nat.le_of_ble_eq_true rfl, Nat.le_of_ble_eq_true rfl⟩ (fun r w32 H locs hM hw => ?_)
      obtain ⟨hr, hn_this, hfr⟩ := hw
      rw [hr]
      have hp_this := hn_this
      have hF := hF.tr (hfr.wide (by omega) (by omega))
      cases hf
      exact hret hM dX13_clears_35 rfl ⟨rfl, hp_this, hF⟩
  · rw [if_pos hcd] at hf
    refine lv_aload_n hx hb dX13_clears_8 rfl (lv_at hl 0 rfl) ?_
    refine lv_iconst (v := 1) hx hb dX13_clears_9 (by decide) ?_
    obtain ⟨q10, hq10, hf⟩ := mm_bd hf
    refine mm_Vi (rest := []) hC hM (c_X13_fail l hq10 hp_this) q7_112 q1_12 ykX13_fail q7_109 q7_111 qp_bcc4f98e hp_this.1 rfl ⟨rfl, rfl⟩ ⟨Nat.le_of_ble_eq_true rfl, Nat.le_of_ble_eq_true rfl⟩ rfl hl.1 rfl (Nat.le_of_ble_eq_true rfl) dX13_clears_10 ⟨Nat.le_of_ble_eq_true rfl, Nat.le_of_ble_eq_true rfl⟩ (fun r w10 H locs hM hw => ?_)
    obtain ⟨hr, hn_this, hfr⟩ := hw
    rw [hr]
    have hp_this := hn_this
    have hF := hF.tr (hfr.wide (by omega) (by omega))
    cases hf
    exact hret hM dX13_clears_13 rfl ⟨rfl, hp_this, hF⟩
def f_X13_removeReed (K : Nat) (changes : Int32) (v : Nat → Int32) (before : Nat → Int32) (past : Nat → Int32) (x1 : Int32) (x2 : Int32) : Option (Int32 × Int32 × Int32 × (Nat → Int32) × (Nat → Int32) × (Nat → Int32)) := (f_X13_begins K v before).bind fun q1 => (f_X13_clears q1.1 v x1 x2).bind fun q8 => (f_X13_ends K q8.2.1 changes q8.2.2 q1.2 past q8.1).bind fun q11 => some (q11.1, q8.2.1, q11.2.1, q11.2.2.1, q1.2, q11.2.2.2)
set_option maxHeartbeats 4000000 in
set_option maxRecDepth 100000 in
theorem c_X13_removeReed (l : Launch) {G : mm_G} {K : Nat} {w : va_W} {sz : Nat} {b : Nat} {thrown : Int32} {changes : Int32} {errorAt : Int32} {failedAt : Int32} {isSaved : Int32} {v : Nat → Int32} {before : Nat → Int32} {saved : Nat → Int32} {past : Nat → Int32} {far : Nat → Int32} {scratch : Nat → Int32} {best : Nat → Int32} {thenX : Int32} {thenY : Int32} {thenMet : Int32} {text : Nat → Int32} {line : Nat → Int32} {isLeft : Nat → Int32} {words : Nat → Int32} {wordAt : Nat → Int32} {textN : Int32} {hereP : Int32} {endP : Int32} {lineN : Int32} {isWrong : Int32} {isDoing : Int32} {x1 : Int32} {x2 : Int32} {X : Int32 × Int32 × Int32 × (Nat → Int32) × (Nat → Int32) × (Nat → Int32)} (hf : f_X13_removeReed K changes v before past x1 x2 = some X) (hp_this : At13 G w b thrown changes errorAt failedAt isSaved v before saved past far scratch best thenX thenY thenMet text line isLeft words wordAt textN hereP endP lineN isWrong isDoing) : Met l yX13_removeReed (Cond.code yX13_removeReed cX13_removeReed 3 (some .int) :: gAll) ({ frames := 3, cells := 0, slots := 0, locals := 65 }) (va_Pc [.ref b, .int x1, .int x2] (mm_Pre G w sz)) (mm_Qi G w sz (fun r w' => r = X.1 ∧ At13 G w' b X.2.1 X.2.2.1 errorAt failedAt isSaved X.2.2.2.1 X.2.2.2.2.1 saved X.2.2.2.2.2 far scratch best thenX thenY thenMet text line isLeft words wordAt textN hereP endP lineN isWrong isDoing ∧ mm_fr w w' b (b + 13))) 0 0 (va_A w sz) := by
  refine mm_headI [.ref b, .int x1, .int x2] (by decide +kernel) rfl (Nat.le_of_ble_eq_true rfl) ?_
  intro p e s m args below meth c A Q hsz hC hM hret ls hl
  have hx := hC.1.1
  have hb := hC.1.2.1
  have hl : lv_has ls 3 [(0, .ref b), (1, .int x1), (2, .int x2)] := hl
  have hF : mm_fr w w b (b + 13) := mm_fr.rf
  rw [f_X13_removeReed] at hf
  refine lv_aload_n hx hb dX13_removeReed_0 rfl (lv_at hl 0 rfl) ?_
  obtain ⟨q1, hq1, hf⟩ := mm_bd hf
  refine mm_Vv (rest := []) hC hM (c_X13_begins l hq1 hp_this) q7_95 q1_12 ykX13_begins q7_92 q7_94 qp_0e68fe50 hp_this.1 rfl ⟨rfl, rfl⟩ ⟨Nat.le_of_ble_eq_true rfl, Nat.le_of_ble_eq_true rfl⟩ rfl hl.1 rfl (Nat.le_of_ble_eq_true rfl) dX13_removeReed_1 ⟨Nat.le_of_ble_eq_true rfl, Nat.le_of_ble_eq_true rfl⟩ (fun w1 H locs hM hw => ?_)
  obtain ⟨hn_this, hfr⟩ := hw
  have hp_this := hn_this
  have hF := hF.tr (hfr.wide (by omega) (by omega))
  refine lv_aload_n hx hb dX13_removeReed_4 rfl (lv_at hl 0 rfl) ?_
  refine lv_aload_n hx hb dX13_removeReed_5 rfl (lv_at hl 0 rfl) ?_
  refine lv_iload_n hx hb dX13_removeReed_6 rfl (lv_at hl 1 rfl) ?_
  refine lv_iload_n hx hb dX13_removeReed_7 rfl (lv_at hl 2 rfl) ?_
  obtain ⟨q8, hq8, hf⟩ := mm_bd hf
  refine mm_Vi (rest := [.ref b]) hC hM (c_X13_clears l hq8 hp_this) q7_153 q1_12 ykX13_clears q7_150 q7_152 qp_3045bb60 hp_this.1 rfl ⟨rfl, rfl⟩ ⟨Nat.le_of_ble_eq_true rfl, Nat.le_of_ble_eq_true rfl⟩ rfl hl.1 rfl (Nat.le_of_ble_eq_true rfl) dX13_removeReed_8 ⟨Nat.le_of_ble_eq_true rfl, Nat.le_of_ble_eq_true rfl⟩ (fun r w8 H locs hM hw => ?_)
  obtain ⟨hr, hn_this, hfr⟩ := hw
  rw [hr]
  have hp_this := hn_this
  have hF := hF.tr (hfr.wide (by omega) (by omega))
  obtain ⟨q11, hq11, hf⟩ := mm_bd hf
  refine mm_Vi (rest := []) hC hM (c_X13_ends l hq11 hp_this) q7_133 q1_12 ykX13_ends q7_130 q7_132 qp_952383d2 hp_this.1 rfl ⟨rfl, rfl⟩ ⟨Nat.le_of_ble_eq_true rfl, Nat.le_of_ble_eq_true rfl⟩ rfl hl.1 rfl (Nat.le_of_ble_eq_true rfl) dX13_removeReed_11 ⟨Nat.le_of_ble_eq_true rfl, Nat.le_of_ble_eq_true rfl⟩ (fun r w11 H locs hM hw => ?_)
  obtain ⟨hr, hn_this, hfr⟩ := hw
  rw [hr]
  have hp_this := hn_this
  have hF := hF.tr (hfr.wide (by omega) (by omega))
  cases hf
  exact hret hM dX13_removeReed_14 rfl ⟨rfl, hp_this, hF⟩
def f_X13_hasReed (v : Nat → Int32) (x1 : Int32) (x2 : Int32) : Option (Int32 × Int32) := (f_X13_isCell x1 x2).bind fun q3 => if q3 = 0 then some (0, 1) else (f_X13_cell x1 x2).bind fun q32 => mm_g (mm_ck (7 + q32) 238) (if (v (7 + q32).toNatClampNeg) = 0 then some (0, 0) else some (1, 0))
set_option maxHeartbeats 4000000 in
set_option maxRecDepth 100000 in
theorem c_X13_hasReed (l : Launch) {G : mm_G} {w : va_W} {sz : Nat} {b : Nat} {thrown : Int32} {changes : Int32} {errorAt : Int32} {failedAt : Int32} {isSaved : Int32} {v : Nat → Int32} {before : Nat → Int32} {saved : Nat → Int32} {past : Nat → Int32} {far : Nat → Int32} {scratch : Nat → Int32} {best : Nat → Int32} {thenX : Int32} {thenY : Int32} {thenMet : Int32} {text : Nat → Int32} {line : Nat → Int32} {isLeft : Nat → Int32} {words : Nat → Int32} {wordAt : Nat → Int32} {textN : Int32} {hereP : Int32} {endP : Int32} {lineN : Int32} {isWrong : Int32} {isDoing : Int32} {x1 : Int32} {x2 : Int32} {X : Int32 × Int32} (hf : f_X13_hasReed v x1 x2 = some X) (hp_this : At13 G w b thrown changes errorAt failedAt isSaved v before saved past far scratch best thenX thenY thenMet text line isLeft words wordAt textN hereP endP lineN isWrong isDoing) : Met l yX13_hasReed (Cond.code yX13_hasReed cX13_hasReed 3 (some .boolean) :: gAll) ({ frames := 2, cells := 0, slots := 0, locals := 43 }) (va_Pc [.ref b, .int x1, .int x2] (mm_Pre G w sz)) (mm_Qi G w sz (fun r w' => r = X.1 ∧ At13 G w' b X.2 changes errorAt failedAt isSaved v before saved past far scratch best thenX thenY thenMet text line isLeft words wordAt textN hereP endP lineN isWrong isDoing ∧ mm_fr w w' b (b + 13))) 0 0 (va_A w sz) := by
  refine mm_headI [.ref b, .int x1, .int x2] (by decide +kernel) rfl (Nat.le_of_ble_eq_true rfl) ?_
  intro p e s m args below meth c A Q hsz hC hM hret ls hl
  have hx := hC.1.1
  have hb := hC.1.2.1
  have hl : lv_has ls 3 [(0, .ref b), (1, .int x1), (2, .int x2)] := hl
  have hF : mm_fr w w b (b + 13) := mm_fr.rf
  rw [f_X13_hasReed] at hf
  refine lv_aload_n hx hb dX13_hasReed_0 rfl (lv_at hl 0 rfl) ?_
  refine lv_iload_n hx hb dX13_hasReed_1 rfl (lv_at hl 1 rfl) ?_
  refine lv_iload_n hx hb dX13_hasReed_2 rfl (lv_at hl 2 rfl) ?_
  obtain ⟨q3, hq3, hf⟩ := mm_bd hf
  refine mm_Si (rest := [.ref b]) hC hM (c_X13_isCell l hq3) q7_105 q1_12 ykX13_isCell q7_103 q7_104 ⟨rfl, rfl⟩ ⟨Nat.le_of_ble_eq_true rfl, Nat.le_of_ble_eq_true rfl⟩ rfl hl.1 rfl (Nat.le_of_ble_eq_true rfl) dX13_hasReed_3 ⟨Nat.le_of_ble_eq_true rfl, Nat.le_of_ble_eq_true rfl⟩ (fun r w3 H locs hM hw => ?_)
  obtain ⟨hr, hw⟩ := hw
  rw [hr]
  rw [hw] at hM
  refine lv_if_eq (tgt := 13) hx hb dX13_hasReed_6 (by decide) (fun hcd => ?_) (fun hcd => ?_)
  · rw [if_pos hcd] at hf
    refine lv_iconst (v := 1) hx hb dX13_hasReed_13 (by decide) ?_
    refine mm_put hC hM (k := 0) tyX13 hp_this.1 rfl inAX13 tyX13_ok nmX13 (by decide) q7_5 rfl rfl rfl rfl (Nat.le_of_ble_eq_true rfl) dX13_hasReed_14 (fun w14 H locs hM hm => ?_)
    have hp_this : At13 G w14 b 1 changes errorAt failedAt isSaved v before saved past far scratch best thenX thenY thenMet text line isLeft words wordAt textN hereP endP lineN isWrong isDoing := ⟨hm.1, hm.keep (hp_this.2.1) (by omega), hm.keep (hp_this.2.2.1) (by omega), hm.keep (hp_this.2.2.2.1) (by omega), hm.keep (hp_this.2.2.2.2.1) (by omega), hm.keep (hp_this.2.2.2.2.2.1) (by omega), hm.keep (hp_this.2.2.2.2.2.2.1) (by omega), hm.keep (hp_this.2.2.2.2.2.2.2.1) (by omega), hm.keep (hp_this.2.2.2.2.2.2.2.2.1) (by omega), hm.keep (hp_this.2.2.2.2.2.2.2.2.2.1) (by omega), hm.keep (hp_this.2.2.2.2.2.2.2.2.2.2.1) (by omega), hm.keep (hp_this.2.2.2.2.2.2.2.2.2.2.2.1) (by omega), hm.keep (hp_this.2.2.2.2.2.2.2.2.2.2.2.2) (by omega)⟩
    have hF := hF.tr (hm.fr (by omega) (by omega))
    refine lv_aload_n hx hb dX13_hasReed_17 rfl (lv_at hl 0 rfl) ?_
    refine mm_get hC hM (k := 0) hp_this.1 rfl inAX13 (by decide) q7_5 rfl dX13_hasReed_18 ?_
    refine lv_if_ne (tgt := 44) hx hb dX13_hasReed_21 (by decide) (fun _ => ?_) (fun c => absurd c (by decide))
    refine lv_iconst (v := 0) hx hb dX13_hasReed_44 (by decide) ?_
    cases hf
    exact hret hM dX13_hasReed_45 rfl ⟨rfl, hp_this, hF⟩
  · rw [if_neg hcd] at hf
    refine lv_iconst (v := 0) hx hb dX13_hasReed_9 (by decide) ?_
    refine lv_goto (tgt := 14) hx hb dX13_hasReed_10 (by decide) ?_
    refine mm_put hC hM (k := 0) tyX13 hp_this.1 rfl inAX13 tyX13_ok nmX13 (by decide) q7_5 rfl rfl rfl rfl (Nat.le_of_ble_eq_true rfl) dX13_hasReed_14 (fun w14 H locs hM hm => ?_)
    have hp_this : At13 G w14 b 0 changes errorAt failedAt isSaved v before saved past far scratch best thenX thenY thenMet text line isLeft words wordAt textN hereP endP lineN isWrong isDoing := ⟨hm.1, hm.keep (hp_this.2.1) (by omega), hm.keep (hp_this.2.2.1) (by omega), hm.keep (hp_this.2.2.2.1) (by omega), hm.keep (hp_this.2.2.2.2.1) (by omega), hm.keep (hp_this.2.2.2.2.2.1) (by omega), hm.keep (hp_this.2.2.2.2.2.2.1) (by omega), hm.keep (hp_this.2.2.2.2.2.2.2.1) (by omega), hm.keep (hp_this.2.2.2.2.2.2.2.2.1) (by omega), hm.keep (hp_this.2.2.2.2.2.2.2.2.2.1) (by omega), hm.keep (hp_this.2.2.2.2.2.2.2.2.2.2.1) (by omega), hm.keep (hp_this.2.2.2.2.2.2.2.2.2.2.2.1) (by omega), hm.keep (hp_this.2.2.2.2.2.2.2.2.2.2.2.2) (by omega)⟩
    have hF := hF.tr (hm.fr (by omega) (by omega))
    refine lv_aload_n hx hb dX13_hasReed_17 rfl (lv_at hl 0 rfl) ?_
    refine mm_get hC hM (k := 0) hp_this.1 rfl inAX13 (by decide) q7_5 rfl dX13_hasReed_18 ?_
    refine lv_if_ne (tgt := 44) hx hb dX13_hasReed_21 (by decide) (fun c => absurd (by decide) c) (fun _ => ?_)
    refine lv_aload_n hx hb dX13_hasReed_24 rfl (lv_at hl 0 rfl) ?_
    refine mm_get hC hM (k := 5) hp_this.1 rfl inAX13 (by decide) q7_10 rfl dX13_hasReed_25 ?_
    refine lv_bipush (v := 7) hx hb dX13_hasReed_28 (by decide) ?_
    refine lv_iload_n hx hb dX13_hasReed_30 rfl (lv_at hl 1 rfl) ?_
    refine lv_iload_n hx hb dX13_hasReed_31 rfl (lv_at hl 2 rfl) ?_
    obtain ⟨q32, hq32, hf⟩ := mm_bd hf
    refine mm_Si (rest := [.int 7, .ref (b + 1)]) hC hM (c_X13_cell l hq32) q7_115 q1_12 ykX13_cell q7_113 q7_114 ⟨rfl, rfl⟩ ⟨Nat.le_of_ble_eq_true rfl, Nat.le_of_ble_eq_true rfl⟩ rfl hl.1 rfl (Nat.le_of_ble_eq_true rfl) dX13_hasReed_32 ⟨Nat.le_of_ble_eq_true rfl, Nat.le_of_ble_eq_true rfl⟩ (fun r w32 H locs hM hw => ?_)
    obtain ⟨hr, hw⟩ := hw
    rw [hr]
    rw [hw] at hM
    refine lv_iadd hx hb dX13_hasReed_35 ?_
    obtain ⟨hg36, hf⟩ := mm_gd hf
    refine mm_iald hC hM (hp_this.2.1) hg36 dX13_hasReed_36 ?_
    refine lv_if_eq (tgt := 44) hx hb dX13_hasReed_37 (by decide) (fun hcd => ?_) (fun hcd => ?_)
    · rw [if_pos hcd] at hf
      refine lv_iconst (v := 0) hx hb dX13_hasReed_44 (by decide) ?_
      cases hf
      exact hret hM dX13_hasReed_45 rfl ⟨rfl, hp_this, hF⟩
    · rw [if_neg hcd] at hf
      refine lv_iconst (v := 1) hx hb dX13_hasReed_40 (by decide) ?_
      refine lv_goto (tgt := 45) hx hb dX13_hasReed_41 (by decide) ?_
      cases hf
      exact hret hM dX13_hasReed_45 rfl ⟨rfl, hp_this, hF⟩
def f_X13_isPassable (v : Nat → Int32) (x1 : Int32) (x2 : Int32) : Option (Int32 × Int32) := (f_X13_isCell x1 x2).bind fun q3 => if q3 = 0 then some (0, 1) else (f_X13_cell x1 x2).bind fun q27 => (f_X13_isFree v q27).bind fun q30 => if q30 = 0 then some (0, 0) else some (1, 0)
set_option maxHeartbeats 4000000 in
set_option maxRecDepth 100000 in
theorem c_X13_isPassable (l : Launch) {G : mm_G} {w : va_W} {sz : Nat} {b : Nat} {thrown : Int32} {changes : Int32} {errorAt : Int32} {failedAt : Int32} {isSaved : Int32} {v : Nat → Int32} {before : Nat → Int32} {saved : Nat → Int32} {past : Nat → Int32} {far : Nat → Int32} {scratch : Nat → Int32} {best : Nat → Int32} {thenX : Int32} {thenY : Int32} {thenMet : Int32} {text : Nat → Int32} {line : Nat → Int32} {isLeft : Nat → Int32} {words : Nat → Int32} {wordAt : Nat → Int32} {textN : Int32} {hereP : Int32} {endP : Int32} {lineN : Int32} {isWrong : Int32} {isDoing : Int32} {x1 : Int32} {x2 : Int32} {X : Int32 × Int32} (hf : f_X13_isPassable v x1 x2 = some X) (hp_this : At13 G w b thrown changes errorAt failedAt isSaved v before saved past far scratch best thenX thenY thenMet text line isLeft words wordAt textN hereP endP lineN isWrong isDoing) : Met l yX13_isPassable (Cond.code yX13_isPassable cX13_isPassable 3 (some .boolean) :: gAll) ({ frames := 2, cells := 0, slots := 0, locals := 43 }) (va_Pc [.ref b, .int x1, .int x2] (mm_Pre G w sz)) (mm_Qi G w sz (fun r w' => r = X.1 ∧ At13 G w' b X.2 changes errorAt failedAt isSaved v before saved past far scratch best thenX thenY thenMet text line isLeft words wordAt textN hereP endP lineN isWrong isDoing ∧ mm_fr w w' b (b + 13))) 0 0 (va_A w sz) := by
  refine mm_headI [.ref b, .int x1, .int x2] (by decide +kernel) rfl (Nat.le_of_ble_eq_true rfl) ?_
  intro p e s m args below meth c A Q hsz hC hM hret ls hl
  have hx := hC.1.1
  have hb := hC.1.2.1
  have hl : lv_has ls 3 [(0, .ref b), (1, .int x1), (2, .int x2)] := hl
  have hF : mm_fr w w b (b + 13) := mm_fr.rf
  rw [f_X13_isPassable] at hf
  refine lv_aload_n hx hb dX13_isPassable_0 rfl (lv_at hl 0 rfl) ?_
  refine lv_iload_n hx hb dX13_isPassable_1 rfl (lv_at hl 1 rfl) ?_
  refine lv_iload_n hx hb dX13_isPassable_2 rfl (lv_at hl 2 rfl) ?_
  obtain ⟨q3, hq3, hf⟩ := mm_bd hf
  refine mm_Si (rest := [.ref b]) hC hM (c_X13_isCell l hq3) q7_105 q1_12 ykX13_isCell q7_103 q7_104 ⟨rfl, rfl⟩ ⟨Nat.le_of_ble_eq_true rfl, Nat.le_of_ble_eq_true rfl⟩ rfl hl.1 rfl (Nat.le_of_ble_eq_true rfl) dX13_isPassable_3 ⟨Nat.le_of_ble_eq_true rfl, Nat.le_of_ble_eq_true rfl⟩ (fun r w3 H locs hM hw => ?_)
  obtain ⟨hr, hw⟩ := hw
  rw [hr]
  rw [hw] at hM
  refine lv_if_eq (tgt := 13) hx hb dX13_isPassable_6 (by decide) (fun hcd => ?_) (fun hcd => ?_)
  · rw [if_pos hcd] at hf
    refine lv_iconst (v := 1) hx hb dX13_isPassable_13 (by decide) ?_
    refine mm_put hC hM (k := 0) tyX13 hp_this.1 rfl inAX13 tyX13_ok nmX13 (by decide) q7_5 rfl rfl rfl rfl (Nat.le_of_ble_eq_true rfl) dX13_isPassable_14 (fun w14 H locs hM hm => ?_)
    have hp_this : At13 G w14 b 1 changes errorAt failedAt isSaved v before saved past far scratch best thenX thenY thenMet text line isLeft words wordAt textN hereP endP lineN isWrong isDoing := ⟨hm.1, hm.keep (hp_this.2.1) (by omega), hm.keep (hp_this.2.2.1) (by omega), hm.keep (hp_this.2.2.2.1) (by omega), hm.keep (hp_this.2.2.2.2.1) (by omega), hm.keep (hp_this.2.2.2.2.2.1) (by omega), hm.keep (hp_this.2.2.2.2.2.2.1) (by omega), hm.keep (hp_this.2.2.2.2.2.2.2.1) (by omega), hm.keep (hp_this.2.2.2.2.2.2.2.2.1) (by omega), hm.keep (hp_this.2.2.2.2.2.2.2.2.2.1) (by omega), hm.keep (hp_this.2.2.2.2.2.2.2.2.2.2.1) (by omega), hm.keep (hp_this.2.2.2.2.2.2.2.2.2.2.2.1) (by omega), hm.keep (hp_this.2.2.2.2.2.2.2.2.2.2.2.2) (by omega)⟩
    have hF := hF.tr (hm.fr (by omega) (by omega))
    refine lv_aload_n hx hb dX13_isPassable_17 rfl (lv_at hl 0 rfl) ?_
    refine mm_get hC hM (k := 0) hp_this.1 rfl inAX13 (by decide) q7_5 rfl dX13_isPassable_18 ?_
    refine lv_if_ne (tgt := 40) hx hb dX13_isPassable_21 (by decide) (fun _ => ?_) (fun c => absurd c (by decide))
    refine lv_iconst (v := 0) hx hb dX13_isPassable_40 (by decide) ?_
    cases hf
    exact hret hM dX13_isPassable_41 rfl ⟨rfl, hp_this, hF⟩
  · rw [if_neg hcd] at hf
    refine lv_iconst (v := 0) hx hb dX13_isPassable_9 (by decide) ?_
    refine lv_goto (tgt := 14) hx hb dX13_isPassable_10 (by decide) ?_
    refine mm_put hC hM (k := 0) tyX13 hp_this.1 rfl inAX13 tyX13_ok nmX13 (by decide) q7_5 rfl rfl rfl rfl (Nat.le_of_ble_eq_true rfl) dX13_isPassable_14 (fun w14 H locs hM hm => ?_)
    have hp_this : At13 G w14 b 0 changes errorAt failedAt isSaved v before saved past far scratch best thenX thenY thenMet text line isLeft words wordAt textN hereP endP lineN isWrong isDoing := ⟨hm.1, hm.keep (hp_this.2.1) (by omega), hm.keep (hp_this.2.2.1) (by omega), hm.keep (hp_this.2.2.2.1) (by omega), hm.keep (hp_this.2.2.2.2.1) (by omega), hm.keep (hp_this.2.2.2.2.2.1) (by omega), hm.keep (hp_this.2.2.2.2.2.2.1) (by omega), hm.keep (hp_this.2.2.2.2.2.2.2.1) (by omega), hm.keep (hp_this.2.2.2.2.2.2.2.2.1) (by omega), hm.keep (hp_this.2.2.2.2.2.2.2.2.2.1) (by omega), hm.keep (hp_this.2.2.2.2.2.2.2.2.2.2.1) (by omega), hm.keep (hp_this.2.2.2.2.2.2.2.2.2.2.2.1) (by omega), hm.keep (hp_this.2.2.2.2.2.2.2.2.2.2.2.2) (by omega)⟩
    have hF := hF.tr (hm.fr (by omega) (by omega))
    refine lv_aload_n hx hb dX13_isPassable_17 rfl (lv_at hl 0 rfl) ?_
    refine mm_get hC hM (k := 0) hp_this.1 rfl inAX13 (by decide) q7_5 rfl dX13_isPassable_18 ?_
    refine lv_if_ne (tgt := 40) hx hb dX13_isPassable_21 (by decide) (fun c => absurd (by decide) c) (fun _ => ?_)
    refine lv_aload_n hx hb dX13_isPassable_24 rfl (lv_at hl 0 rfl) ?_
    refine lv_iload_n hx hb dX13_isPassable_25 rfl (lv_at hl 1 rfl) ?_
    refine lv_iload_n hx hb dX13_isPassable_26 rfl (lv_at hl 2 rfl) ?_
    obtain ⟨q27, hq27, hf⟩ := mm_bd hf
    refine mm_Si (rest := [.ref b]) hC hM (c_X13_cell l hq27) q7_115 q1_12 ykX13_cell q7_113 q7_114 ⟨rfl, rfl⟩ ⟨Nat.le_of_ble_eq_true rfl, Nat.le_of_ble_eq_true rfl⟩ rfl hl.1 rfl (Nat.le_of_ble_eq_true rfl) dX13_isPassable_27 ⟨Nat.le_of_ble_eq_true rfl, Nat.le_of_ble_eq_true rfl⟩ (fun r w27 H locs hM hw => ?_)
    obtain ⟨hr, hw⟩ := hw
    rw [hr]
    rw [hw] at hM
    obtain ⟨q30, hq30, hf⟩ := mm_bd hf
    refine mm_Vi (rest := []) hC hM (c_X13_isFree l hq30 hp_this) q7_165 q1_12 ykX13_isFree q7_162 q7_164 qp_41d31006 hp_this.1 rfl ⟨rfl, rfl⟩ ⟨Nat.le_of_ble_eq_true rfl, Nat.le_of_ble_eq_true rfl⟩ rfl hl.1 rfl (Nat.le_of_ble_eq_true rfl) dX13_isPassable_30 ⟨Nat.le_of_ble_eq_true rfl, Nat.le_of_ble_eq_true rfl⟩ (fun r w30 H locs hM hw => ?_)
    obtain ⟨hr, hw⟩ := hw
    rw [hr]
    rw [hw] at hM
    refine lv_if_eq (tgt := 40) hx hb dX13_isPassable_33 (by decide) (fun hcd => ?_) (fun hcd => ?_)
    · rw [if_pos hcd] at hf
      refine lv_iconst (v := 0) hx hb dX13_isPassable_40 (by decide) ?_
      cases hf
      exact hret hM dX13_isPassable_41 rfl ⟨rfl, hp_this, hF⟩
    · rw [if_neg hcd] at hf
      refine lv_iconst (v := 1) hx hb dX13_isPassable_36 (by decide) ?_
      refine lv_goto (tgt := 41) hx hb dX13_isPassable_37 (by decide) ?_
      cases hf
      exact hret hM dX13_isPassable_41 rfl ⟨rfl, hp_this, hF⟩
def f_X13_tells (v : Nat → Int32) (x1 : Int32) : Option (Int32 × Int32) := mm_g (mm_ck x1 238) (some ((v x1.toNatClampNeg), 0))
set_option maxHeartbeats 4000000 in
set_option maxRecDepth 100000 in
theorem c_X13_tells (l : Launch) {G : mm_G} {w : va_W} {sz : Nat} {b : Nat} {thrown : Int32} {changes : Int32} {errorAt : Int32} {failedAt : Int32} {isSaved : Int32} {v : Nat → Int32} {before : Nat → Int32} {saved : Nat → Int32} {past : Nat → Int32} {far : Nat → Int32} {scratch : Nat → Int32} {best : Nat → Int32} {thenX : Int32} {thenY : Int32} {thenMet : Int32} {text : Nat → Int32} {line : Nat → Int32} {isLeft : Nat → Int32} {words : Nat → Int32} {wordAt : Nat → Int32} {textN : Int32} {hereP : Int32} {endP : Int32} {lineN : Int32} {isWrong : Int32} {isDoing : Int32} {x1 : Int32} {X : Int32 × Int32} (hf : f_X13_tells v x1 = some X) (hp_this : At13 G w b thrown changes errorAt failedAt isSaved v before saved past far scratch best thenX thenY thenMet text line isLeft words wordAt textN hereP endP lineN isWrong isDoing) : Met l yX13_tells (Cond.code yX13_tells cX13_tells 2 (some .int) :: gAll) ({ frames := 0, cells := 0, slots := 0, locals := 0 }) (va_Pc [.ref b, .int x1] (mm_Pre G w sz)) (mm_Qi G w sz (fun r w' => r = X.1 ∧ At13 G w' b X.2 changes errorAt failedAt isSaved v before saved past far scratch best thenX thenY thenMet text line isLeft words wordAt textN hereP endP lineN isWrong isDoing ∧ mm_fr w w' b (b + 13))) 0 0 (va_A w sz) := by
  refine mm_headI [.ref b, .int x1] (by decide +kernel) rfl (Nat.le_of_ble_eq_true rfl) ?_
  intro p e s m args below meth c A Q hsz hC hM hret ls hl
  have hx := hC.1.1
  have hb := hC.1.2.1
  have hl : lv_has ls 2 [(0, .ref b), (1, .int x1)] := hl
  have hF : mm_fr w w b (b + 13) := mm_fr.rf
  rw [f_X13_tells] at hf
  refine lv_aload_n hx hb dX13_tells_0 rfl (lv_at hl 0 rfl) ?_
  refine lv_iconst (v := 0) hx hb dX13_tells_1 (by decide) ?_
  refine mm_put hC hM (k := 0) tyX13 hp_this.1 rfl inAX13 tyX13_ok nmX13 (by decide) q7_5 rfl rfl rfl rfl (Nat.le_of_ble_eq_true rfl) dX13_tells_2 (fun w2 H locs hM hm => ?_)
  have hp_this : At13 G w2 b 0 changes errorAt failedAt isSaved v before saved past far scratch best thenX thenY thenMet text line isLeft words wordAt textN hereP endP lineN isWrong isDoing := ⟨hm.1, hm.keep (hp_this.2.1) (by omega), hm.keep (hp_this.2.2.1) (by omega), hm.keep (hp_this.2.2.2.1) (by omega), hm.keep (hp_this.2.2.2.2.1) (by omega), hm.keep (hp_this.2.2.2.2.2.1) (by omega), hm.keep (hp_this.2.2.2.2.2.2.1) (by omega), hm.keep (hp_this.2.2.2.2.2.2.2.1) (by omega), hm.keep (hp_this.2.2.2.2.2.2.2.2.1) (by omega), hm.keep (hp_this.2.2.2.2.2.2.2.2.2.1) (by omega), hm.keep (hp_this.2.2.2.2.2.2.2.2.2.2.1) (by omega), hm.keep (hp_this.2.2.2.2.2.2.2.2.2.2.2.1) (by omega), hm.keep (hp_this.2.2.2.2.2.2.2.2.2.2.2.2) (by omega)⟩
  have hF := hF.tr (hm.fr (by omega) (by omega))
  refine lv_aload_n hx hb dX13_tells_5 rfl (lv_at hl 0 rfl) ?_
  refine mm_get hC hM (k := 5) hp_this.1 rfl inAX13 (by decide) q7_10 rfl dX13_tells_6 ?_
  refine lv_iload_n hx hb dX13_tells_9 rfl (lv_at hl 1 rfl) ?_
  obtain ⟨hg10, hf⟩ := mm_gd hf
  refine mm_iald hC hM (hp_this.2.1) hg10 dX13_tells_10 ?_
  cases hf
  exact hret hM dX13_tells_11 rfl ⟨rfl, hp_this, hF⟩
def f_X13_reedCount (v : Nat → Int32) : Option (Int32 × Int32) := (f_X13_tells v 0).bind fun q2 => some (q2.1, q2.2)
set_option maxHeartbeats 4000000 in
set_option maxRecDepth 100000 in
theorem c_X13_reedCount (l : Launch) {G : mm_G} {w : va_W} {sz : Nat} {b : Nat} {thrown : Int32} {changes : Int32} {errorAt : Int32} {failedAt : Int32} {isSaved : Int32} {v : Nat → Int32} {before : Nat → Int32} {saved : Nat → Int32} {past : Nat → Int32} {far : Nat → Int32} {scratch : Nat → Int32} {best : Nat → Int32} {thenX : Int32} {thenY : Int32} {thenMet : Int32} {text : Nat → Int32} {line : Nat → Int32} {isLeft : Nat → Int32} {words : Nat → Int32} {wordAt : Nat → Int32} {textN : Int32} {hereP : Int32} {endP : Int32} {lineN : Int32} {isWrong : Int32} {isDoing : Int32} {X : Int32 × Int32} (hf : f_X13_reedCount v = some X) (hp_this : At13 G w b thrown changes errorAt failedAt isSaved v before saved past far scratch best thenX thenY thenMet text line isLeft words wordAt textN hereP endP lineN isWrong isDoing) : Met l yX13_reedCount (Cond.code yX13_reedCount cX13_reedCount 1 (some .int) :: gAll) ({ frames := 1, cells := 0, slots := 0, locals := 21 }) (va_Pc [.ref b] (mm_Pre G w sz)) (mm_Qi G w sz (fun r w' => r = X.1 ∧ At13 G w' b X.2 changes errorAt failedAt isSaved v before saved past far scratch best thenX thenY thenMet text line isLeft words wordAt textN hereP endP lineN isWrong isDoing ∧ mm_fr w w' b (b + 13))) 0 0 (va_A w sz) := by
  refine mm_headI [.ref b] (by decide +kernel) rfl (Nat.le_of_ble_eq_true rfl) ?_
  intro p e s m args below meth c A Q hsz hC hM hret ls hl
  have hx := hC.1.1
  have hb := hC.1.2.1
  have hl : lv_has ls 1 [(0, .ref b)] := hl
  have hF : mm_fr w w b (b + 13) := mm_fr.rf
  rw [f_X13_reedCount] at hf
  refine lv_aload_n hx hb dX13_reedCount_0 rfl (lv_at hl 0 rfl) ?_
  refine lv_iconst (v := 0) hx hb dX13_reedCount_1 (by decide) ?_
  obtain ⟨q2, hq2, hf⟩ := mm_bd hf
  refine mm_Vi (rest := []) hC hM (c_X13_tells l hq2 hp_this) q7_177 q1_12 ykX13_tells q7_174 q7_176 qp_3beb7552 hp_this.1 rfl ⟨rfl, rfl⟩ ⟨Nat.le_of_ble_eq_true rfl, Nat.le_of_ble_eq_true rfl⟩ rfl hl.1 rfl (Nat.le_of_ble_eq_true rfl) dX13_reedCount_2 ⟨Nat.le_of_ble_eq_true rfl, Nat.le_of_ble_eq_true rfl⟩ (fun r w2 H locs hM hw => ?_)
  obtain ⟨hr, hn_this, hfr⟩ := hw
  rw [hr]
  have hp_this := hn_this
  have hF := hF.tr (hfr.wide (by omega) (by omega))
  cases hf
  exact hret hM dX13_reedCount_5 rfl ⟨rfl, hp_this, hF⟩
def f_X13_brokenCount (K : Nat) (v : Nat → Int32) : Option (Int32 × Int32) := (f_X13_broken K v).bind fun q6 => some (q6, 0)
set_option maxHeartbeats 4000000 in
set_option maxRecDepth 100000 in
theorem c_X13_brokenCount (l : Launch) {G : mm_G} {K : Nat} {w : va_W} {sz : Nat} {b : Nat} {thrown : Int32} {changes : Int32} {errorAt : Int32} {failedAt : Int32} {isSaved : Int32} {v : Nat → Int32} {before : Nat → Int32} {saved : Nat → Int32} {past : Nat → Int32} {far : Nat → Int32} {scratch : Nat → Int32} {best : Nat → Int32} {thenX : Int32} {thenY : Int32} {thenMet : Int32} {text : Nat → Int32} {line : Nat → Int32} {isLeft : Nat → Int32} {words : Nat → Int32} {wordAt : Nat → Int32} {textN : Int32} {hereP : Int32} {endP : Int32} {lineN : Int32} {isWrong : Int32} {isDoing : Int32} {X : Int32 × Int32} (hf : f_X13_brokenCount K v = some X) (hp_this : At13 G w b thrown changes errorAt failedAt isSaved v before saved past far scratch best thenX thenY thenMet text line isLeft words wordAt textN hereP endP lineN isWrong isDoing) : Met l yX13_brokenCount (Cond.code yX13_brokenCount cX13_brokenCount 1 (some .int) :: gAll) ({ frames := 1, cells := 0, slots := 0, locals := 22 }) (va_Pc [.ref b] (mm_Pre G w sz)) (mm_Qi G w sz (fun r w' => r = X.1 ∧ At13 G w' b X.2 changes errorAt failedAt isSaved v before saved past far scratch best thenX thenY thenMet text line isLeft words wordAt textN hereP endP lineN isWrong isDoing ∧ mm_fr w w' b (b + 13))) 0 0 (va_A w sz) := by
  refine mm_headI [.ref b] (by decide +kernel) rfl (Nat.le_of_ble_eq_true rfl) ?_
  intro p e s m args below meth c A Q hsz hC hM hret ls hl
  have hx := hC.1.1
  have hb := hC.1.2.1
  have hl : lv_has ls 1 [(0, .ref b)] := hl
  have hF : mm_fr w w b (b + 13) := mm_fr.rf
  rw [f_X13_brokenCount] at hf
  refine lv_aload_n hx hb dX13_brokenCount_0 rfl (lv_at hl 0 rfl) ?_
  refine lv_iconst (v := 0) hx hb dX13_brokenCount_1 (by decide) ?_
  refine mm_put hC hM (k := 0) tyX13 hp_this.1 rfl inAX13 tyX13_ok nmX13 (by decide) q7_5 rfl rfl rfl rfl (Nat.le_of_ble_eq_true rfl) dX13_brokenCount_2 (fun w2 H locs hM hm => ?_)
  have hp_this : At13 G w2 b 0 changes errorAt failedAt isSaved v before saved past far scratch best thenX thenY thenMet text line isLeft words wordAt textN hereP endP lineN isWrong isDoing := ⟨hm.1, hm.keep (hp_this.2.1) (by omega), hm.keep (hp_this.2.2.1) (by omega), hm.keep (hp_this.2.2.2.1) (by omega), hm.keep (hp_this.2.2.2.2.1) (by omega), hm.keep (hp_this.2.2.2.2.2.1) (by omega), hm.keep (hp_this.2.2.2.2.2.2.1) (by omega), hm.keep (hp_this.2.2.2.2.2.2.2.1) (by omega), hm.keep (hp_this.2.2.2.2.2.2.2.2.1) (by omega), hm.keep (hp_this.2.2.2.2.2.2.2.2.2.1) (by omega), hm.keep (hp_this.2.2.2.2.2.2.2.2.2.2.1) (by omega), hm.keep (hp_this.2.2.2.2.2.2.2.2.2.2.2.1) (by omega), hm.keep (hp_this.2.2.2.2.2.2.2.2.2.2.2.2) (by omega)⟩
  have hF := hF.tr (hm.fr (by omega) (by omega))
  refine lv_aload_n hx hb dX13_brokenCount_5 rfl (lv_at hl 0 rfl) ?_
  obtain ⟨q6, hq6, hf⟩ := mm_bd hf
  refine mm_Vi (rest := []) hC hM (c_X13_broken l hq6 hp_this) q7_145 q1_12 ykX13_broken q7_142 q7_144 qp_f245e903 hp_this.1 rfl ⟨rfl, rfl⟩ ⟨Nat.le_of_ble_eq_true rfl, Nat.le_of_ble_eq_true rfl⟩ rfl hl.1 rfl (Nat.le_of_ble_eq_true rfl) dX13_brokenCount_6 ⟨Nat.le_of_ble_eq_true rfl, Nat.le_of_ble_eq_true rfl⟩ (fun r w6 H locs hM hw => ?_)
  obtain ⟨hr, hw⟩ := hw
  rw [hr]
  rw [hw] at hM
  cases hf
  exact hret hM dX13_brokenCount_9 rfl ⟨rfl, hp_this, hF⟩
def f_X13_oddReeds_L9 (v : Nat → Int32) : Nat → (Int32) → (Int32) → Option (Int32)
  | 0, _, _ => none
  | n + 1, x1, x2 => if 81 ≤ x2 then some x1 else (f_X13_stands v x2).bind fun q18 => if q18 = 1 then (f_X13_image x2).bind fun q27 => (f_X13_stands v q27).bind fun q30 => if q30 = 0 then f_X13_oddReeds_L9 v n (x1 + 1) (x2 + 1) else f_X13_oddReeds_L9 v n (x1 + 0) (x2 + 1) else f_X13_oddReeds_L9 v n (x1 + 0) (x2 + 1)
def f_X13_oddReeds (K : Nat) (v : Nat → Int32) : Option (Int32 × Int32) := (f_X13_oddReeds_L9 v K 0 0).bind fun q9 => some (q9, 0)
set_option maxHeartbeats 4000000 in
set_option maxRecDepth 100000 in
theorem c_X13_oddReeds (l : Launch) {G : mm_G} {K : Nat} {w : va_W} {sz : Nat} {b : Nat} {thrown : Int32} {changes : Int32} {errorAt : Int32} {failedAt : Int32} {isSaved : Int32} {v : Nat → Int32} {before : Nat → Int32} {saved : Nat → Int32} {past : Nat → Int32} {far : Nat → Int32} {scratch : Nat → Int32} {best : Nat → Int32} {thenX : Int32} {thenY : Int32} {thenMet : Int32} {text : Nat → Int32} {line : Nat → Int32} {isLeft : Nat → Int32} {words : Nat → Int32} {wordAt : Nat → Int32} {textN : Int32} {hereP : Int32} {endP : Int32} {lineN : Int32} {isWrong : Int32} {isDoing : Int32} {X : Int32 × Int32} (hf : f_X13_oddReeds K v = some X) (hp_this : At13 G w b thrown changes errorAt failedAt isSaved v before saved past far scratch best thenX thenY thenMet text line isLeft words wordAt textN hereP endP lineN isWrong isDoing) : Met l yX13_oddReeds (Cond.code yX13_oddReeds cX13_oddReeds 3 (some .int) :: gAll) ({ frames := 1, cells := 0, slots := 0, locals := 21 }) (va_Pc [.ref b] (mm_Pre G w sz)) (mm_Qi G w sz (fun r w' => r = X.1 ∧ At13 G w' b X.2 changes errorAt failedAt isSaved v before saved past far scratch best thenX thenY thenMet text line isLeft words wordAt textN hereP endP lineN isWrong isDoing ∧ mm_fr w w' b (b + 13))) 0 0 (va_A w sz) := by
  refine mm_headI [.ref b] (by decide +kernel) rfl (Nat.le_of_ble_eq_true rfl) ?_
  intro p e s m args below meth c A Q hsz hC hM hret ls hl
  have hx := hC.1.1
  have hb := hC.1.2.1
  have hl : lv_has ls 3 [(0, .ref b)] := hl
  have hF : mm_fr w w b (b + 13) := mm_fr.rf
  rw [f_X13_oddReeds] at hf
  refine lv_aload_n hx hb dX13_oddReeds_0 rfl (lv_at hl 0 rfl) ?_
  refine lv_iconst (v := 0) hx hb dX13_oddReeds_1 (by decide) ?_
  refine mm_put hC hM (k := 0) tyX13 hp_this.1 rfl inAX13 tyX13_ok nmX13 (by decide) q7_5 rfl rfl rfl rfl (Nat.le_of_ble_eq_true rfl) dX13_oddReeds_2 (fun w2 H locs hM hm => ?_)
  have hp_this : At13 G w2 b 0 changes errorAt failedAt isSaved v before saved past far scratch best thenX thenY thenMet text line isLeft words wordAt textN hereP endP lineN isWrong isDoing := ⟨hm.1, hm.keep (hp_this.2.1) (by omega), hm.keep (hp_this.2.2.1) (by omega), hm.keep (hp_this.2.2.2.1) (by omega), hm.keep (hp_this.2.2.2.2.1) (by omega), hm.keep (hp_this.2.2.2.2.2.1) (by omega), hm.keep (hp_this.2.2.2.2.2.2.1) (by omega), hm.keep (hp_this.2.2.2.2.2.2.2.1) (by omega), hm.keep (hp_this.2.2.2.2.2.2.2.2.1) (by omega), hm.keep (hp_this.2.2.2.2.2.2.2.2.2.1) (by omega), hm.keep (hp_this.2.2.2.2.2.2.2.2.2.2.1) (by omega), hm.keep (hp_this.2.2.2.2.2.2.2.2.2.2.2.1) (by omega), hm.keep (hp_this.2.2.2.2.2.2.2.2.2.2.2.2) (by omega)⟩
  have hF := hF.tr (hm.fr (by omega) (by omega))
  refine lv_iconst (v := 0) hx hb dX13_oddReeds_5 (by decide) ?_
  refine lv_istore_n (lv' := [(1, .int 0), (0, .ref b)]) hx hb dX13_oddReeds_6 rfl hl (by decide) rfl (fun ls hl => ?_)
  refine lv_iconst (v := 0) hx hb dX13_oddReeds_7 (by decide) ?_
  refine lv_istore_n (lv' := [(2, .int 0), (1, .int 0), (0, .ref b)]) hx hb dX13_oddReeds_8 rfl hl (by decide) rfl (fun ls hl => ?_)
  have L9 : ∀ (n : Nat) (L9_x1 : Int32) (L9_x2 : Int32) (X : Int32), f_X13_oddReeds_L9 v n L9_x1 L9_x2 = some X → ∀ (H : Heap) (locs : List Loc), mm_S G A s.heap w2 H locs → ∀ (ls : Array Slot), lv_has ls 3 [(0, .ref b), (1, .int L9_x1), (2, .int L9_x2)] → (∀ (H : Heap) (locs : List Loc), mm_S G A s.heap w2 H locs → ∀ (ls : Array Slot), lv_has ls 3 [(1, .int X)] → W p l e ({ frames := 1, cells := 0, slots := 0, locals := 21 } : Room) s m args below meth c H locs 0 0 Q (F0 m 49 ls [])) → W p l e ({ frames := 1, cells := 0, slots := 0, locals := 21 } : Room) s m args below meth c H locs 0 0 Q (F0 m 9 ls []) := by
    intro n
    induction n with
    | zero => intro L9_x1 L9_x2 X hf; cases hf
    | succ n ih =>
      intro L9_x1 L9_x2 X hf H locs hM ls hl hk
      rw [f_X13_oddReeds_L9] at hf
      refine lv_iload_n hx hb dX13_oddReeds_9 rfl (lv_at hl 2 rfl) ?_
      refine lv_bipush (v := 81) hx hb dX13_oddReeds_10 (by decide) ?_
      refine lv_icmp_ge (tgt := 49) hx hb dX13_oddReeds_12 (by decide) (fun hcd => ?_) (fun hcd => ?_)
      · rw [if_pos hcd] at hf
        cases hf
        exact hk _ _ hM _ (lv_sub hl [1] rfl)
      · rw [if_neg hcd] at hf
        refine lv_iload_n hx hb dX13_oddReeds_15 rfl (lv_at hl 1 rfl) ?_
        refine lv_aload_n hx hb dX13_oddReeds_16 rfl (lv_at hl 0 rfl) ?_
        refine lv_iload_n hx hb dX13_oddReeds_17 rfl (lv_at hl 2 rfl) ?_
        obtain ⟨q18, hq18, hf⟩ := mm_bd hf
        refine mm_Vi (rest := [.int L9_x1]) hC hM (c_X13_stands l hq18 hp_this) q7_169 q1_12 ykX13_stands q7_166 q7_168 qp_0c8d64ed hp_this.1 rfl ⟨rfl, rfl⟩ ⟨Nat.le_of_ble_eq_true rfl, Nat.le_of_ble_eq_true rfl⟩ rfl hl.1 rfl (Nat.le_of_ble_eq_true rfl) dX13_oddReeds_18 ⟨Nat.le_of_ble_eq_true rfl, Nat.le_of_ble_eq_true rfl⟩ (fun r w18 H locs hM hw => ?_)
        obtain ⟨hr, hw⟩ := hw
        rw [hr]
        rw [hw] at hM
        refine lv_iconst (v := 1) hx hb dX13_oddReeds_21 (by decide) ?_
        refine lv_icmp_ne (tgt := 40) hx hb dX13_oddReeds_22 (by decide) (fun hcd => ?_) (fun hcd => ?_)
        · rw [if_neg hcd] at hf
          refine lv_iconst (v := 0) hx hb dX13_oddReeds_40 (by decide) ?_
          refine lv_iadd hx hb dX13_oddReeds_41 ?_
          refine lv_istore_n (lv' := [(1, .int (L9_x1 + 0)), (0, .ref b), (2, .int L9_x2)]) hx hb dX13_oddReeds_42 rfl hl (by decide) rfl (fun ls hl => ?_)
          refine lv_iinc (v := (L9_x2 + 1)) (lv' := [(2, .int (L9_x2 + 1)), (1, .int (L9_x1 + 0)), (0, .ref b)]) hx hb dX13_oddReeds_43 hl (k := 2) rfl rfl (by decide) rfl (fun ls hl => ?_)
          refine lv_goto (tgt := 9) hx hb dX13_oddReeds_46 (by decide) ?_
          exact ih _ _ _ hf _ _ hM _ (lv_sub hl [2, 1, 0] rfl) hk
        · rw [if_pos hcd] at hf
          refine lv_aload_n hx hb dX13_oddReeds_25 rfl (lv_at hl 0 rfl) ?_
          refine lv_iload_n hx hb dX13_oddReeds_26 rfl (lv_at hl 2 rfl) ?_
          obtain ⟨q27, hq27, hf⟩ := mm_bd hf
          refine mm_Si (rest := [.ref b, .int L9_x1]) hC hM (c_X13_image l hq27) q7_129 q1_12 ykX13_image q7_127 q7_128 ⟨rfl, rfl⟩ ⟨Nat.le_of_ble_eq_true rfl, Nat.le_of_ble_eq_true rfl⟩ rfl hl.1 rfl (Nat.le_of_ble_eq_true rfl) dX13_oddReeds_27 ⟨Nat.le_of_ble_eq_true rfl, Nat.le_of_ble_eq_true rfl⟩ (fun r w27 H locs hM hw => ?_)
          obtain ⟨hr, hw⟩ := hw
          rw [hr]
          rw [hw] at hM
          obtain ⟨q30, hq30, hf⟩ := mm_bd hf
          refine mm_Vi (rest := [.int L9_x1]) hC hM (c_X13_stands l hq30 hp_this) q7_169 q1_12 ykX13_stands q7_166 q7_168 qp_0c8d64ed hp_this.1 rfl ⟨rfl, rfl⟩ ⟨Nat.le_of_ble_eq_true rfl, Nat.le_of_ble_eq_true rfl⟩ rfl hl.1 rfl (Nat.le_of_ble_eq_true rfl) dX13_oddReeds_30 ⟨Nat.le_of_ble_eq_true rfl, Nat.le_of_ble_eq_true rfl⟩ (fun r w30 H locs hM hw => ?_)
          obtain ⟨hr, hw⟩ := hw
          rw [hr]
          rw [hw] at hM
          refine lv_if_ne (tgt := 40) hx hb dX13_oddReeds_33 (by decide) (fun hcd => ?_) (fun hcd => ?_)
          · rw [if_neg hcd] at hf
            refine lv_iconst (v := 0) hx hb dX13_oddReeds_40 (by decide) ?_
            refine lv_iadd hx hb dX13_oddReeds_41 ?_
            refine lv_istore_n (lv' := [(1, .int (L9_x1 + 0)), (0, .ref b), (2, .int L9_x2)]) hx hb dX13_oddReeds_42 rfl hl (by decide) rfl (fun ls hl => ?_)
            refine lv_iinc (v := (L9_x2 + 1)) (lv' := [(2, .int (L9_x2 + 1)), (1, .int (L9_x1 + 0)), (0, .ref b)]) hx hb dX13_oddReeds_43 hl (k := 2) rfl rfl (by decide) rfl (fun ls hl => ?_)
            refine lv_goto (tgt := 9) hx hb dX13_oddReeds_46 (by decide) ?_
            exact ih _ _ _ hf _ _ hM _ (lv_sub hl [2, 1, 0] rfl) hk
          · rw [if_pos hcd] at hf
            refine lv_iconst (v := 1) hx hb dX13_oddReeds_36 (by decide) ?_
            refine lv_goto (tgt := 41) hx hb dX13_oddReeds_37 (by decide) ?_
            refine lv_iadd hx hb dX13_oddReeds_41 ?_
            refine lv_istore_n (lv' := [(1, .int (L9_x1 + 1)), (0, .ref b), (2, .int L9_x2)]) hx hb dX13_oddReeds_42 rfl hl (by decide) rfl (fun ls hl => ?_)
            refine lv_iinc (v := (L9_x2 + 1)) (lv' := [(2, .int (L9_x2 + 1)), (1, .int (L9_x1 + 1)), (0, .ref b)]) hx hb dX13_oddReeds_43 hl (k := 2) rfl rfl (by decide) rfl (fun ls hl => ?_)
            refine lv_goto (tgt := 9) hx hb dX13_oddReeds_46 (by decide) ?_
            exact ih _ _ _ hf _ _ hM _ (lv_sub hl [2, 1, 0] rfl) hk
  obtain ⟨q9, hq9, hf⟩ := mm_bd hf
  refine L9 K _ _ _ hq9 _ _ hM _ (lv_sub hl [2, 1, 0] rfl) (fun H locs hM ls hl => ?_)
  refine lv_iload_n hx hb dX13_oddReeds_49 rfl (lv_at hl 0 rfl) ?_
  cases hf
  exact hret hM dX13_oddReeds_50 rfl ⟨rfl, hp_this, hF⟩
def f_X13_oddReedsByRows (K : Nat) (v : Nat → Int32) : Option (Int32 × Int32) := (f_X13_oddReeds K v).bind fun q1 => some (q1.1, q1.2)
set_option maxHeartbeats 4000000 in
set_option maxRecDepth 100000 in
theorem c_X13_oddReedsByRows (l : Launch) {G : mm_G} {K : Nat} {w : va_W} {sz : Nat} {b : Nat} {thrown : Int32} {changes : Int32} {errorAt : Int32} {failedAt : Int32} {isSaved : Int32} {v : Nat → Int32} {before : Nat → Int32} {saved : Nat → Int32} {past : Nat → Int32} {far : Nat → Int32} {scratch : Nat → Int32} {best : Nat → Int32} {thenX : Int32} {thenY : Int32} {thenMet : Int32} {text : Nat → Int32} {line : Nat → Int32} {isLeft : Nat → Int32} {words : Nat → Int32} {wordAt : Nat → Int32} {textN : Int32} {hereP : Int32} {endP : Int32} {lineN : Int32} {isWrong : Int32} {isDoing : Int32} {X : Int32 × Int32} (hf : f_X13_oddReedsByRows K v = some X) (hp_this : At13 G w b thrown changes errorAt failedAt isSaved v before saved past far scratch best thenX thenY thenMet text line isLeft words wordAt textN hereP endP lineN isWrong isDoing) : Met l yX13_oddReedsByRows (Cond.code yX13_oddReedsByRows cX13_oddReedsByRows 1 (some .int) :: gAll) ({ frames := 2, cells := 0, slots := 0, locals := 43 }) (va_Pc [.ref b] (mm_Pre G w sz)) (mm_Qi G w sz (fun r w' => r = X.1 ∧ At13 G w' b X.2 changes errorAt failedAt isSaved v before saved past far scratch best thenX thenY thenMet text line isLeft words wordAt textN hereP endP lineN isWrong isDoing ∧ mm_fr w w' b (b + 13))) 0 0 (va_A w sz) := by
  refine mm_headI [.ref b] (by decide +kernel) rfl (Nat.le_of_ble_eq_true rfl) ?_
  intro p e s m args below meth c A Q hsz hC hM hret ls hl
  have hx := hC.1.1
  have hb := hC.1.2.1
  have hl : lv_has ls 1 [(0, .ref b)] := hl
  have hF : mm_fr w w b (b + 13) := mm_fr.rf
  rw [f_X13_oddReedsByRows] at hf
  refine lv_aload_n hx hb dX13_oddReedsByRows_0 rfl (lv_at hl 0 rfl) ?_
  obtain ⟨q1, hq1, hf⟩ := mm_bd hf
  refine mm_Vi (rest := []) hC hM (c_X13_oddReeds l hq1 hp_this) q7_185 q1_12 ykX13_oddReeds q7_190 q7_183 q7_184 hp_this.1 rfl ⟨rfl, rfl⟩ ⟨Nat.le_of_ble_eq_true rfl, Nat.le_of_ble_eq_true rfl⟩ rfl hl.1 rfl (Nat.le_of_ble_eq_true rfl) dX13_oddReedsByRows_1 ⟨Nat.le_of_ble_eq_true rfl, Nat.le_of_ble_eq_true rfl⟩ (fun r w1 H locs hM hw => ?_)
  obtain ⟨hr, hn_this, hfr⟩ := hw
  rw [hr]
  have hp_this := hn_this
  have hF := hF.tr (hfr.wide (by omega) (by omega))
  cases hf
  exact hret hM dX13_oddReedsByRows_4 rfl ⟨rfl, hp_this, hF⟩
def f_X13_fogs (thrown : Int32) (v : Nat → Int32) (x1 : Int32) : Option (Int32 × Int32 × (Nat → Int32)) := (f_X13_isIn x1 0 2).bind fun q3 => if q3 = 0 then (f_X13_fail 1).bind fun q11 => some (q11.1, q11.2, v) else some ((v 1), thrown, (upd v 1 x1))
set_option maxHeartbeats 4000000 in
set_option maxRecDepth 100000 in
theorem c_X13_fogs (l : Launch) {G : mm_G} {w : va_W} {sz : Nat} {b : Nat} {thrown : Int32} {changes : Int32} {errorAt : Int32} {failedAt : Int32} {isSaved : Int32} {v : Nat → Int32} {before : Nat → Int32} {saved : Nat → Int32} {past : Nat → Int32} {far : Nat → Int32} {scratch : Nat → Int32} {best : Nat → Int32} {thenX : Int32} {thenY : Int32} {thenMet : Int32} {text : Nat → Int32} {line : Nat → Int32} {isLeft : Nat → Int32} {words : Nat → Int32} {wordAt : Nat → Int32} {textN : Int32} {hereP : Int32} {endP : Int32} {lineN : Int32} {isWrong : Int32} {isDoing : Int32} {x1 : Int32} {X : Int32 × Int32 × (Nat → Int32)} (hf : f_X13_fogs thrown v x1 = some X) (hp_this : At13 G w b thrown changes errorAt failedAt isSaved v before saved past far scratch best thenX thenY thenMet text line isLeft words wordAt textN hereP endP lineN isWrong isDoing) : Met l yX13_fogs (Cond.code yX13_fogs cX13_fogs 3 (some .int) :: gAll) ({ frames := 1, cells := 0, slots := 0, locals := 22 }) (va_Pc [.ref b, .int x1] (mm_Pre G w sz)) (mm_Qi G w sz (fun r w' => r = X.1 ∧ At13 G w' b X.2.1 changes errorAt failedAt isSaved X.2.2 before saved past far scratch best thenX thenY thenMet text line isLeft words wordAt textN hereP endP lineN isWrong isDoing ∧ mm_fr w w' b (b + 13))) 0 0 (va_A w sz) := by
  refine mm_headI [.ref b, .int x1] (by decide +kernel) rfl (Nat.le_of_ble_eq_true rfl) ?_
  intro p e s m args below meth c A Q hsz hC hM hret ls hl
  have hx := hC.1.1
  have hb := hC.1.2.1
  have hl : lv_has ls 3 [(0, .ref b), (1, .int x1)] := hl
  have hF : mm_fr w w b (b + 13) := mm_fr.rf
  rw [f_X13_fogs] at hf
  refine lv_iload_n hx hb dX13_fogs_0 rfl (lv_at hl 1 rfl) ?_
  refine lv_iconst (v := 0) hx hb dX13_fogs_1 (by decide) ?_
  refine lv_iconst (v := 2) hx hb dX13_fogs_2 (by decide) ?_
  obtain ⟨q3, hq3, hf⟩ := mm_bd hf
  refine mm_Si (rest := []) hC hM (c_X13_isIn l hq3) q7_108 q1_12 ykX13_isIn q7_106 q7_107 ⟨rfl, rfl⟩ ⟨Nat.le_of_ble_eq_true rfl, Nat.le_of_ble_eq_true rfl⟩ rfl hl.1 rfl (Nat.le_of_ble_eq_true rfl) dX13_fogs_3 ⟨Nat.le_of_ble_eq_true rfl, Nat.le_of_ble_eq_true rfl⟩ (fun r w3 H locs hM hw => ?_)
  obtain ⟨hr, hw⟩ := hw
  rw [hr]
  rw [hw] at hM
  refine lv_if_ne (tgt := 15) hx hb dX13_fogs_6 (by decide) (fun hcd => ?_) (fun hcd => ?_)
  · rw [if_neg hcd] at hf
    refine lv_aload_n hx hb dX13_fogs_15 rfl (lv_at hl 0 rfl) ?_
    refine mm_get hC hM (k := 5) hp_this.1 rfl inAX13 (by decide) q7_10 rfl dX13_fogs_16 ?_
    refine lv_iconst (v := 1) hx hb dX13_fogs_19 (by decide) ?_
    refine mm_ialdN (N := 1) hC hM (hp_this.2.1) (by decide) (by unfold vp_in; decide) dX13_fogs_20 ?_
    refine lv_istore_n (lv' := [(2, .int (v 1)), (0, .ref b), (1, .int x1)]) hx hb dX13_fogs_21 rfl hl (by decide) rfl (fun ls hl => ?_)
    refine lv_aload_n hx hb dX13_fogs_22 rfl (lv_at hl 1 rfl) ?_
    refine mm_get hC hM (k := 5) hp_this.1 rfl inAX13 (by decide) q7_10 rfl dX13_fogs_23 ?_
    refine lv_iconst (v := 1) hx hb dX13_fogs_26 (by decide) ?_
    refine lv_iload_n hx hb dX13_fogs_27 rfl (lv_at hl 2 rfl) ?_
    refine mm_iastN (N := 1) hC hM (hp_this.2.1) (by decide) (by unfold vp_in; decide) dX13_fogs_28 (fun w28 H locs hM hm => ?_)
    have hp_this : At13 G w28 b thrown changes errorAt failedAt isSaved (upd v 1 x1) before saved past far scratch best thenX thenY thenMet text line isLeft words wordAt textN hereP endP lineN isWrong isDoing := ⟨hm.keep (hp_this.1) (by omega), hm.1, hm.keep (hp_this.2.2.1) (by omega), hm.keep (hp_this.2.2.2.1) (by omega), hm.keep (hp_this.2.2.2.2.1) (by omega), hm.keep (hp_this.2.2.2.2.2.1) (by omega), hm.keep (hp_this.2.2.2.2.2.2.1) (by omega), hm.keep (hp_this.2.2.2.2.2.2.2.1) (by omega), hm.keep (hp_this.2.2.2.2.2.2.2.2.1) (by omega), hm.keep (hp_this.2.2.2.2.2.2.2.2.2.1) (by omega), hm.keep (hp_this.2.2.2.2.2.2.2.2.2.2.1) (by omega), hm.keep (hp_this.2.2.2.2.2.2.2.2.2.2.2.1) (by omega), hm.keep (hp_this.2.2.2.2.2.2.2.2.2.2.2.2) (by omega)⟩
    have hF := hF.tr (hm.fr (by omega) (by omega))
    refine lv_iload_n hx hb dX13_fogs_29 rfl (lv_at hl 0 rfl) ?_
    cases hf
    exact hret hM dX13_fogs_30 rfl ⟨rfl, hp_this, hF⟩
  · rw [if_pos hcd] at hf
    refine lv_aload_n hx hb dX13_fogs_9 rfl (lv_at hl 0 rfl) ?_
    refine lv_iconst (v := 1) hx hb dX13_fogs_10 (by decide) ?_
    obtain ⟨q11, hq11, hf⟩ := mm_bd hf
    refine mm_Vi (rest := []) hC hM (c_X13_fail l hq11 hp_this) q7_112 q1_12 ykX13_fail q7_109 q7_111 qp_bcc4f98e hp_this.1 rfl ⟨rfl, rfl⟩ ⟨Nat.le_of_ble_eq_true rfl, Nat.le_of_ble_eq_true rfl⟩ rfl hl.1 rfl (Nat.le_of_ble_eq_true rfl) dX13_fogs_11 ⟨Nat.le_of_ble_eq_true rfl, Nat.le_of_ble_eq_true rfl⟩ (fun r w11 H locs hM hw => ?_)
    obtain ⟨hr, hn_this, hfr⟩ := hw
    rw [hr]
    have hp_this := hn_this
    have hF := hF.tr (hfr.wide (by omega) (by omega))
    cases hf
    exact hret hM dX13_fogs_14 rfl ⟨rfl, hp_this, hF⟩
def f_X13_setFog (K : Nat) (changes : Int32) (v : Nat → Int32) (before : Nat → Int32) (past : Nat → Int32) (x1 : Int32) : Option (Int32 × Int32 × Int32 × (Nat → Int32) × (Nat → Int32) × (Nat → Int32)) := (f_X13_begins K v before).bind fun q1 => (f_X13_fogs q1.1 v x1).bind fun q7 => (f_X13_ends K q7.2.1 changes q7.2.2 q1.2 past q7.1).bind fun q10 => some (q10.1, q7.2.1, q10.2.1, q10.2.2.1, q1.2, q10.2.2.2)
set_option maxHeartbeats 4000000 in
set_option maxRecDepth 100000 in
theorem c_X13_setFog (l : Launch) {G : mm_G} {K : Nat} {w : va_W} {sz : Nat} {b : Nat} {thrown : Int32} {changes : Int32} {errorAt : Int32} {failedAt : Int32} {isSaved : Int32} {v : Nat → Int32} {before : Nat → Int32} {saved : Nat → Int32} {past : Nat → Int32} {far : Nat → Int32} {scratch : Nat → Int32} {best : Nat → Int32} {thenX : Int32} {thenY : Int32} {thenMet : Int32} {text : Nat → Int32} {line : Nat → Int32} {isLeft : Nat → Int32} {words : Nat → Int32} {wordAt : Nat → Int32} {textN : Int32} {hereP : Int32} {endP : Int32} {lineN : Int32} {isWrong : Int32} {isDoing : Int32} {x1 : Int32} {X : Int32 × Int32 × Int32 × (Nat → Int32) × (Nat → Int32) × (Nat → Int32)} (hf : f_X13_setFog K changes v before past x1 = some X) (hp_this : At13 G w b thrown changes errorAt failedAt isSaved v before saved past far scratch best thenX thenY thenMet text line isLeft words wordAt textN hereP endP lineN isWrong isDoing) : Met l yX13_setFog (Cond.code yX13_setFog cX13_setFog 2 (some .int) :: gAll) ({ frames := 2, cells := 0, slots := 0, locals := 44 }) (va_Pc [.ref b, .int x1] (mm_Pre G w sz)) (mm_Qi G w sz (fun r w' => r = X.1 ∧ At13 G w' b X.2.1 X.2.2.1 errorAt failedAt isSaved X.2.2.2.1 X.2.2.2.2.1 saved X.2.2.2.2.2 far scratch best thenX thenY thenMet text line isLeft words wordAt textN hereP endP lineN isWrong isDoing ∧ mm_fr w w' b (b + 13))) 0 0 (va_A w sz) := by
  refine mm_headI [.ref b, .int x1] (by decide +kernel) rfl (Nat.le_of_ble_eq_true rfl) ?_
  intro p e s m args below meth c A Q hsz hC hM hret ls hl
  have hx := hC.1.1
  have hb := hC.1.2.1
  have hl : lv_has ls 2 [(0, .ref b), (1, .int x1)] := hl
  have hF : mm_fr w w b (b + 13) := mm_fr.rf
  rw [f_X13_setFog] at hf
  refine lv_aload_n hx hb dX13_setFog_0 rfl (lv_at hl 0 rfl) ?_
  obtain ⟨q1, hq1, hf⟩ := mm_bd hf
  refine mm_Vv (rest := []) hC hM (c_X13_begins l hq1 hp_this) q7_95 q1_12 ykX13_begins q7_92 q7_94 qp_0e68fe50 hp_this.1 rfl ⟨rfl, rfl⟩ ⟨Nat.le_of_ble_eq_true rfl, Nat.le_of_ble_eq_true rfl⟩ rfl hl.1 rfl (Nat.le_of_ble_eq_true rfl) dX13_setFog_1 ⟨Nat.le_of_ble_eq_true rfl, Nat.le_of_ble_eq_true rfl⟩ (fun w1 H locs hM hw => ?_)
  obtain ⟨hn_this, hfr⟩ := hw
  have hp_this := hn_this
  have hF := hF.tr (hfr.wide (by omega) (by omega))
  refine lv_aload_n hx hb dX13_setFog_4 rfl (lv_at hl 0 rfl) ?_
  refine lv_aload_n hx hb dX13_setFog_5 rfl (lv_at hl 0 rfl) ?_
  refine lv_iload_n hx hb dX13_setFog_6 rfl (lv_at hl 1 rfl) ?_
  obtain ⟨q7, hq7, hf⟩ := mm_bd hf
  refine mm_Vi (rest := [.ref b]) hC hM (c_X13_fogs l hq7 hp_this) q7_198 q1_12 ykX13_fogs q7_195 q7_197 qp_5c36f82c hp_this.1 rfl ⟨rfl, rfl⟩ ⟨Nat.le_of_ble_eq_true rfl, Nat.le_of_ble_eq_true rfl⟩ rfl hl.1 rfl (Nat.le_of_ble_eq_true rfl) dX13_setFog_7 ⟨Nat.le_of_ble_eq_true rfl, Nat.le_of_ble_eq_true rfl⟩ (fun r w7 H locs hM hw => ?_)
  obtain ⟨hr, hn_this, hfr⟩ := hw
  rw [hr]
  have hp_this := hn_this
  have hF := hF.tr (hfr.wide (by omega) (by omega))
  obtain ⟨q10, hq10, hf⟩ := mm_bd hf
  refine mm_Vi (rest := []) hC hM (c_X13_ends l hq10 hp_this) q7_133 q1_12 ykX13_ends q7_130 q7_132 qp_952383d2 hp_this.1 rfl ⟨rfl, rfl⟩ ⟨Nat.le_of_ble_eq_true rfl, Nat.le_of_ble_eq_true rfl⟩ rfl hl.1 rfl (Nat.le_of_ble_eq_true rfl) dX13_setFog_10 ⟨Nat.le_of_ble_eq_true rfl, Nat.le_of_ble_eq_true rfl⟩ (fun r w10 H locs hM hw => ?_)
  obtain ⟨hr, hn_this, hfr⟩ := hw
  rw [hr]
  have hp_this := hn_this
  have hF := hF.tr (hfr.wide (by omega) (by omega))
  cases hf
  exact hret hM dX13_setFog_13 rfl ⟨rfl, hp_this, hF⟩
def f_X13_fog (v : Nat → Int32) : Option (Int32 × Int32) := (f_X13_tells v 1).bind fun q2 => some (q2.1, q2.2)
set_option maxHeartbeats 4000000 in
set_option maxRecDepth 100000 in
theorem c_X13_fog (l : Launch) {G : mm_G} {w : va_W} {sz : Nat} {b : Nat} {thrown : Int32} {changes : Int32} {errorAt : Int32} {failedAt : Int32} {isSaved : Int32} {v : Nat → Int32} {before : Nat → Int32} {saved : Nat → Int32} {past : Nat → Int32} {far : Nat → Int32} {scratch : Nat → Int32} {best : Nat → Int32} {thenX : Int32} {thenY : Int32} {thenMet : Int32} {text : Nat → Int32} {line : Nat → Int32} {isLeft : Nat → Int32} {words : Nat → Int32} {wordAt : Nat → Int32} {textN : Int32} {hereP : Int32} {endP : Int32} {lineN : Int32} {isWrong : Int32} {isDoing : Int32} {X : Int32 × Int32} (hf : f_X13_fog v = some X) (hp_this : At13 G w b thrown changes errorAt failedAt isSaved v before saved past far scratch best thenX thenY thenMet text line isLeft words wordAt textN hereP endP lineN isWrong isDoing) : Met l yX13_fog (Cond.code yX13_fog cX13_fog 1 (some .int) :: gAll) ({ frames := 1, cells := 0, slots := 0, locals := 21 }) (va_Pc [.ref b] (mm_Pre G w sz)) (mm_Qi G w sz (fun r w' => r = X.1 ∧ At13 G w' b X.2 changes errorAt failedAt isSaved v before saved past far scratch best thenX thenY thenMet text line isLeft words wordAt textN hereP endP lineN isWrong isDoing ∧ mm_fr w w' b (b + 13))) 0 0 (va_A w sz) := by
  refine mm_headI [.ref b] (by decide +kernel) rfl (Nat.le_of_ble_eq_true rfl) ?_
  intro p e s m args below meth c A Q hsz hC hM hret ls hl
  have hx := hC.1.1
  have hb := hC.1.2.1
  have hl : lv_has ls 1 [(0, .ref b)] := hl
  have hF : mm_fr w w b (b + 13) := mm_fr.rf
  rw [f_X13_fog] at hf
  refine lv_aload_n hx hb dX13_fog_0 rfl (lv_at hl 0 rfl) ?_
  refine lv_iconst (v := 1) hx hb dX13_fog_1 (by decide) ?_
  obtain ⟨q2, hq2, hf⟩ := mm_bd hf
  refine mm_Vi (rest := []) hC hM (c_X13_tells l hq2 hp_this) q7_177 q1_12 ykX13_tells q7_174 q7_176 qp_3beb7552 hp_this.1 rfl ⟨rfl, rfl⟩ ⟨Nat.le_of_ble_eq_true rfl, Nat.le_of_ble_eq_true rfl⟩ rfl hl.1 rfl (Nat.le_of_ble_eq_true rfl) dX13_fog_2 ⟨Nat.le_of_ble_eq_true rfl, Nat.le_of_ble_eq_true rfl⟩ (fun r w2 H locs hM hw => ?_)
  obtain ⟨hr, hn_this, hfr⟩ := hw
  rw [hr]
  have hp_this := hn_this
  have hF := hF.tr (hfr.wide (by omega) (by omega))
  cases hf
  exact hret hM dX13_fog_5 rfl ⟨rfl, hp_this, hF⟩
def f_X13_boats (K : Nat) (thrown : Int32) (v : Nat → Int32) (x1 : Int32) (x2 : Int32) : Option (Int32 × Int32 × (Nat → Int32)) := (f_X13_isCell x1 x2).bind fun q2 => if q2 = 0 then (f_X13_fail 1).bind fun q10 => some (q10.1, q10.2, v) else if (v 3) = 4 then (f_X13_fail 2).bind fun q28 => some (q28.1, q28.2, v) else (f_X13_cell x1 x2).bind fun q35 => (f_X13_isFree v q35).bind fun q38 => if q38 = 0 then (f_X13_fail 3).bind fun q59 => some (q59.1, q59.2, v) else (f_X13_cell x1 x2).bind fun q47 => (f_X13_isTaken K v q47 (-1)).bind fun q51 => if q51 = 0 then (f_X13_of (v 3) 0).bind fun q69 => mm_g (mm_ck q69 238) ((f_X13_of (v 3) 1).bind fun q85 => mm_g (mm_ck q85 238) ((f_X13_of (v 3) 2).bind fun q96 => mm_g (mm_ck q96 238) ((f_X13_of (v 3) 3).bind fun q107 => mm_g (mm_ck q107 238) ((f_X13_of (v 3) 0).bind fun q138 => mm_g (mm_ck q138 238) (some (((upd (upd (upd (upd (upd (upd v q69.toNatClampNeg (v 2)) q85.toNatClampNeg x1) q96.toNatClampNeg x2) q107.toNatClampNeg 0) 3 (((upd (upd (upd (upd v q69.toNatClampNeg (v 2)) q85.toNatClampNeg x1) q96.toNatClampNeg x2) q107.toNatClampNeg 0) 3) + 1)) 2 (((upd (upd (upd (upd (upd v q69.toNatClampNeg (v 2)) q85.toNatClampNeg x1) q96.toNatClampNeg x2) q107.toNatClampNeg 0) 3 (((upd (upd (upd (upd v q69.toNatClampNeg (v 2)) q85.toNatClampNeg x1) q96.toNatClampNeg x2) q107.toNatClampNeg 0) 3) + 1)) 2) + 1)) q138.toNatClampNeg), thrown, (upd (upd (upd (upd (upd (upd v q69.toNatClampNeg (v 2)) q85.toNatClampNeg x1) q96.toNatClampNeg x2) q107.toNatClampNeg 0) 3 (((upd (upd (upd (upd v q69.toNatClampNeg (v 2)) q85.toNatClampNeg x1) q96.toNatClampNeg x2) q107.toNatClampNeg 0) 3) + 1)) 2 (((upd (upd (upd (upd (upd v q69.toNatClampNeg (v 2)) q85.toNatClampNeg x1) q96.toNatClampNeg x2) q107.toNatClampNeg 0) 3 (((upd (upd (upd (upd v q69.toNatClampNeg (v 2)) q85.toNatClampNeg x1) q96.toNatClampNeg x2) q107.toNatClampNeg 0) 3) + 1)) 2) + 1)))))))) else (f_X13_fail 3).bind fun q59 => some (q59.1, q59.2, v)
set_option maxHeartbeats 4000000 in
set_option maxRecDepth 100000 in
theorem c_X13_boats (l : Launch) {G : mm_G} {K : Nat} {w : va_W} {sz : Nat} {b : Nat} {thrown : Int32} {changes : Int32} {errorAt : Int32} {failedAt : Int32} {isSaved : Int32} {v : Nat → Int32} {before : Nat → Int32} {saved : Nat → Int32} {past : Nat → Int32} {far : Nat → Int32} {scratch : Nat → Int32} {best : Nat → Int32} {thenX : Int32} {thenY : Int32} {thenMet : Int32} {text : Nat → Int32} {line : Nat → Int32} {isLeft : Nat → Int32} {words : Nat → Int32} {wordAt : Nat → Int32} {textN : Int32} {hereP : Int32} {endP : Int32} {lineN : Int32} {isWrong : Int32} {isDoing : Int32} {x1 : Int32} {x2 : Int32} {X : Int32 × Int32 × (Nat → Int32)} (hf : f_X13_boats K thrown v x1 x2 = some X) (hp_this : At13 G w b thrown changes errorAt failedAt isSaved v before saved past far scratch best thenX thenY thenMet text line isLeft words wordAt textN hereP endP lineN isWrong isDoing) : Met l yX13_boats (Cond.code yX13_boats cX13_boats 4 (some .int) :: gAll) ({ frames := 3, cells := 0, slots := 0, locals := 65 }) (va_Pc [.ref b, .int x1, .int x2] (mm_Pre G w sz)) (mm_Qi G w sz (fun r w' => r = X.1 ∧ At13 G w' b X.2.1 changes errorAt failedAt isSaved X.2.2 before saved past far scratch best thenX thenY thenMet text line isLeft words wordAt textN hereP endP lineN isWrong isDoing ∧ mm_fr w w' b (b + 13))) 0 0 (va_A w sz) := by
  refine mm_headI [.ref b, .int x1, .int x2] (by decide +kernel) rfl (Nat.le_of_ble_eq_true rfl) ?_
  intro p e s m args below meth c A Q hsz hC hM hret ls hl
  have hx := hC.1.1
  have hb := hC.1.2.1
  have hl : lv_has ls 4 [(0, .ref b), (1, .int x1), (2, .int x2)] := hl
  have hF : mm_fr w w b (b + 13) := mm_fr.rf
  rw [f_X13_boats] at hf
  refine lv_iload_n hx hb dX13_boats_0 rfl (lv_at hl 1 rfl) ?_
  refine lv_iload_n hx hb dX13_boats_1 rfl (lv_at hl 2 rfl) ?_
  obtain ⟨q2, hq2, hf⟩ := mm_bd hf
  refine mm_Si (rest := []) hC hM (c_X13_isCell l hq2) q7_105 q1_12 ykX13_isCell q7_103 q7_104 ⟨rfl, rfl⟩ ⟨Nat.le_of_ble_eq_true rfl, Nat.le_of_ble_eq_true rfl⟩ rfl hl.1 rfl (Nat.le_of_ble_eq_true rfl) dX13_boats_2 ⟨Nat.le_of_ble_eq_true rfl, Nat.le_of_ble_eq_true rfl⟩ (fun r w2 H locs hM hw => ?_)
  obtain ⟨hr, hw⟩ := hw
  rw [hr]
  rw [hw] at hM
  refine lv_if_ne (tgt := 14) hx hb dX13_boats_5 (by decide) (fun hcd => ?_) (fun hcd => ?_)
  · rw [if_neg hcd] at hf
    refine lv_aload_n hx hb dX13_boats_14 rfl (lv_at hl 0 rfl) ?_
    refine mm_get hC hM (k := 5) hp_this.1 rfl inAX13 (by decide) q7_10 rfl dX13_boats_15 ?_
    refine lv_iconst (v := 3) hx hb dX13_boats_18 (by decide) ?_
    refine mm_ialdN (N := 3) hC hM (hp_this.2.1) (by decide) (by unfold vp_in; decide) dX13_boats_19 ?_
    refine lv_istore_n (lv' := [(3, .int (v 3)), (0, .ref b), (1, .int x1), (2, .int x2)]) hx hb dX13_boats_20 rfl hl (by decide) rfl (fun ls hl => ?_)
    refine lv_iload_n hx hb dX13_boats_21 rfl (lv_at hl 0 rfl) ?_
    refine lv_iconst (v := 4) hx hb dX13_boats_22 (by decide) ?_
    refine lv_icmp_ne (tgt := 32) hx hb dX13_boats_23 (by decide) (fun hcd => ?_) (fun hcd => ?_)
    · rw [if_neg hcd] at hf
      refine lv_aload_n hx hb dX13_boats_32 rfl (lv_at hl 1 rfl) ?_
      refine lv_iload_n hx hb dX13_boats_33 rfl (lv_at hl 2 rfl) ?_
      refine lv_iload_n hx hb dX13_boats_34 rfl (lv_at hl 3 rfl) ?_
      obtain ⟨q35, hq35, hf⟩ := mm_bd hf
      refine mm_Si (rest := [.ref b]) hC hM (c_X13_cell l hq35) q7_115 q1_12 ykX13_cell q7_113 q7_114 ⟨rfl, rfl⟩ ⟨Nat.le_of_ble_eq_true rfl, Nat.le_of_ble_eq_true rfl⟩ rfl hl.1 rfl (Nat.le_of_ble_eq_true rfl) dX13_boats_35 ⟨Nat.le_of_ble_eq_true rfl, Nat.le_of_ble_eq_true rfl⟩ (fun r w35 H locs hM hw => ?_)
      obtain ⟨hr, hw⟩ := hw
      rw [hr]
      rw [hw] at hM
      obtain ⟨q38, hq38, hf⟩ := mm_bd hf
      refine mm_Vi (rest := []) hC hM (c_X13_isFree l hq38 hp_this) q7_165 q1_12 ykX13_isFree q7_162 q7_164 qp_41d31006 hp_this.1 rfl ⟨rfl, rfl⟩ ⟨Nat.le_of_ble_eq_true rfl, Nat.le_of_ble_eq_true rfl⟩ rfl hl.1 rfl (Nat.le_of_ble_eq_true rfl) dX13_boats_38 ⟨Nat.le_of_ble_eq_true rfl, Nat.le_of_ble_eq_true rfl⟩ (fun r w38 H locs hM hw => ?_)
      obtain ⟨hr, hw⟩ := hw
      rw [hr]
      rw [hw] at hM
      refine lv_if_eq (tgt := 57) hx hb dX13_boats_41 (by decide) (fun hcd => ?_) (fun hcd => ?_)
      · rw [if_pos hcd] at hf
        refine lv_aload_n hx hb dX13_boats_57 rfl (lv_at hl 1 rfl) ?_
        refine lv_iconst (v := 3) hx hb dX13_boats_58 (by decide) ?_
        obtain ⟨q59, hq59, hf⟩ := mm_bd hf
        refine mm_Vi (rest := []) hC hM (c_X13_fail l hq59 hp_this) q7_112 q1_12 ykX13_fail q7_109 q7_111 qp_bcc4f98e hp_this.1 rfl ⟨rfl, rfl⟩ ⟨Nat.le_of_ble_eq_true rfl, Nat.le_of_ble_eq_true rfl⟩ rfl hl.1 rfl (Nat.le_of_ble_eq_true rfl) dX13_boats_59 ⟨Nat.le_of_ble_eq_true rfl, Nat.le_of_ble_eq_true rfl⟩ (fun r w59 H locs hM hw => ?_)
        obtain ⟨hr, hn_this, hfr⟩ := hw
        rw [hr]
        have hp_this := hn_this
        have hF := hF.tr (hfr.wide (by omega) (by omega))
        cases hf
        exact hret hM dX13_boats_62 rfl ⟨rfl, hp_this, hF⟩
      · rw [if_neg hcd] at hf
        refine lv_aload_n hx hb dX13_boats_44 rfl (lv_at hl 1 rfl) ?_
        refine lv_iload_n hx hb dX13_boats_45 rfl (lv_at hl 2 rfl) ?_
        refine lv_iload_n hx hb dX13_boats_46 rfl (lv_at hl 3 rfl) ?_
        obtain ⟨q47, hq47, hf⟩ := mm_bd hf
        refine mm_Si (rest := [.ref b]) hC hM (c_X13_cell l hq47) q7_115 q1_12 ykX13_cell q7_113 q7_114 ⟨rfl, rfl⟩ ⟨Nat.le_of_ble_eq_true rfl, Nat.le_of_ble_eq_true rfl⟩ rfl hl.1 rfl (Nat.le_of_ble_eq_true rfl) dX13_boats_47 ⟨Nat.le_of_ble_eq_true rfl, Nat.le_of_ble_eq_true rfl⟩ (fun r w47 H locs hM hw => ?_)
        obtain ⟨hr, hw⟩ := hw
        rw [hr]
        rw [hw] at hM
        refine lv_iconst (v := (-1)) hx hb dX13_boats_50 (by decide) ?_
        obtain ⟨q51, hq51, hf⟩ := mm_bd hf
        refine mm_Vi (rest := []) hC hM (c_X13_isTaken l hq51 hp_this) q7_119 q1_12 ykX13_isTaken q7_116 q7_118 qp_afe37682 hp_this.1 rfl ⟨rfl, rfl⟩ ⟨Nat.le_of_ble_eq_true rfl, Nat.le_of_ble_eq_true rfl⟩ rfl hl.1 rfl (Nat.le_of_ble_eq_true rfl) dX13_boats_51 ⟨Nat.le_of_ble_eq_true rfl, Nat.le_of_ble_eq_true rfl⟩ (fun r w51 H locs hM hw => ?_)
        obtain ⟨hr, hw⟩ := hw
        rw [hr]
        rw [hw] at hM
        refine lv_if_eq (tgt := 63) hx hb dX13_boats_54 (by decide) (fun hcd => ?_) (fun hcd => ?_)
        · rw [if_pos hcd] at hf
          refine lv_aload_n hx hb dX13_boats_63 rfl (lv_at hl 1 rfl) ?_
          refine mm_get hC hM (k := 5) hp_this.1 rfl inAX13 (by decide) q7_10 rfl dX13_boats_64 ?_
          refine lv_iload_n hx hb dX13_boats_67 rfl (lv_at hl 0 rfl) ?_
          refine lv_iconst (v := 0) hx hb dX13_boats_68 (by decide) ?_
          obtain ⟨q69, hq69, hf⟩ := mm_bd hf
          refine mm_Si (rest := [.ref (b + 1)]) hC hM (c_X13_of l hq69) q7_126 q1_12 ykX13_of q7_124 q7_125 ⟨rfl, rfl⟩ ⟨Nat.le_of_ble_eq_true rfl, Nat.le_of_ble_eq_true rfl⟩ rfl hl.1 rfl (Nat.le_of_ble_eq_true rfl) dX13_boats_69 ⟨Nat.le_of_ble_eq_true rfl, Nat.le_of_ble_eq_true rfl⟩ (fun r w69 H locs hM hw => ?_)
          obtain ⟨hr, hw⟩ := hw
          rw [hr]
          rw [hw] at hM
          refine lv_aload_n hx hb dX13_boats_72 rfl (lv_at hl 1 rfl) ?_
          refine mm_get hC hM (k := 5) hp_this.1 rfl inAX13 (by decide) q7_10 rfl dX13_boats_73 ?_
          refine lv_iconst (v := 2) hx hb dX13_boats_76 (by decide) ?_
          refine mm_ialdN (N := 2) hC hM (hp_this.2.1) (by decide) (by unfold vp_in; decide) dX13_boats_77 ?_
          obtain ⟨hg78, hf⟩ := mm_gd hf
          refine mm_iast hC hM (hp_this.2.1) hg78 dX13_boats_78 (fun w78 H locs hM hm => ?_)
          have hp_this : At13 G w78 b thrown changes errorAt failedAt isSaved (upd v q69.toNatClampNeg (v 2)) before saved past far scratch best thenX thenY thenMet text line isLeft words wordAt textN hereP endP lineN isWrong isDoing := ⟨hm.keep (hp_this.1) (by omega), hm.1, hm.keep (hp_this.2.2.1) (by omega), hm.keep (hp_this.2.2.2.1) (by omega), hm.keep (hp_this.2.2.2.2.1) (by omega), hm.keep (hp_this.2.2.2.2.2.1) (by omega), hm.keep (hp_this.2.2.2.2.2.2.1) (by omega), hm.keep (hp_this.2.2.2.2.2.2.2.1) (by omega), hm.keep (hp_this.2.2.2.2.2.2.2.2.1) (by omega), hm.keep (hp_this.2.2.2.2.2.2.2.2.2.1) (by omega), hm.keep (hp_this.2.2.2.2.2.2.2.2.2.2.1) (by omega), hm.keep (hp_this.2.2.2.2.2.2.2.2.2.2.2.1) (by omega), hm.keep (hp_this.2.2.2.2.2.2.2.2.2.2.2.2) (by omega)⟩
          have hF := hF.tr (hm.fr (by omega) (by omega))
          refine lv_aload_n hx hb dX13_boats_79 rfl (lv_at hl 1 rfl) ?_
          refine mm_get hC hM (k := 5) hp_this.1 rfl inAX13 (by decide) q7_10 rfl dX13_boats_80 ?_
          refine lv_iload_n hx hb dX13_boats_83 rfl (lv_at hl 0 rfl) ?_
          refine lv_iconst (v := 1) hx hb dX13_boats_84 (by decide) ?_
          obtain ⟨q85, hq85, hf⟩ := mm_bd hf
          refine mm_Si (rest := [.ref (b + 1)]) hC hM (c_X13_of l hq85) q7_126 q1_12 ykX13_of q7_124 q7_125 ⟨rfl, rfl⟩ ⟨Nat.le_of_ble_eq_true rfl, Nat.le_of_ble_eq_true rfl⟩ rfl hl.1 rfl (Nat.le_of_ble_eq_true rfl) dX13_boats_85 ⟨Nat.le_of_ble_eq_true rfl, Nat.le_of_ble_eq_true rfl⟩ (fun r w85 H locs hM hw => ?_)
          obtain ⟨hr, hw⟩ := hw
          rw [hr]
          rw [hw] at hM
          refine lv_iload_n hx hb dX13_boats_88 rfl (lv_at hl 2 rfl) ?_
          obtain ⟨hg89, hf⟩ := mm_gd hf
          refine mm_iast hC hM (hp_this.2.1) hg89 dX13_boats_89 (fun w89 H locs hM hm => ?_)
          have hp_this : At13 G w89 b thrown changes errorAt failedAt isSaved (upd (upd v q69.toNatClampNeg (v 2)) q85.toNatClampNeg x1) before saved past far scratch best thenX thenY thenMet text line isLeft words wordAt textN hereP endP lineN isWrong isDoing := ⟨hm.keep (hp_this.1) (by omega), hm.1, hm.keep (hp_this.2.2.1) (by omega), hm.keep (hp_this.2.2.2.1) (by omega), hm.keep (hp_this.2.2.2.2.1) (by omega), hm.keep (hp_this.2.2.2.2.2.1) (by omega), hm.keep (hp_this.2.2.2.2.2.2.1) (by omega), hm.keep (hp_this.2.2.2.2.2.2.2.1) (by omega), hm.keep (hp_this.2.2.2.2.2.2.2.2.1) (by omega), hm.keep (hp_this.2.2.2.2.2.2.2.2.2.1) (by omega), hm.keep (hp_this.2.2.2.2.2.2.2.2.2.2.1) (by omega), hm.keep (hp_this.2.2.2.2.2.2.2.2.2.2.2.1) (by omega), hm.keep (hp_this.2.2.2.2.2.2.2.2.2.2.2.2) (by omega)⟩
          have hF := hF.tr (hm.fr (by omega) (by omega))
          refine lv_aload_n hx hb dX13_boats_90 rfl (lv_at hl 1 rfl) ?_
          refine mm_get hC hM (k := 5) hp_this.1 rfl inAX13 (by decide) q7_10 rfl dX13_boats_91 ?_
          refine lv_iload_n hx hb dX13_boats_94 rfl (lv_at hl 0 rfl) ?_
          refine lv_iconst (v := 2) hx hb dX13_boats_95 (by decide) ?_
          obtain ⟨q96, hq96, hf⟩ := mm_bd hf
          refine mm_Si (rest := [.ref (b + 1)]) hC hM (c_X13_of l hq96) q7_126 q1_12 ykX13_of q7_124 q7_125 ⟨rfl, rfl⟩ ⟨Nat.le_of_ble_eq_true rfl, Nat.le_of_ble_eq_true rfl⟩ rfl hl.1 rfl (Nat.le_of_ble_eq_true rfl) dX13_boats_96 ⟨Nat.le_of_ble_eq_true rfl, Nat.le_of_ble_eq_true rfl⟩ (fun r w96 H locs hM hw => ?_)
          obtain ⟨hr, hw⟩ := hw
          rw [hr]
          rw [hw] at hM
          refine lv_iload_n hx hb dX13_boats_99 rfl (lv_at hl 3 rfl) ?_
          obtain ⟨hg100, hf⟩ := mm_gd hf
          refine mm_iast hC hM (hp_this.2.1) hg100 dX13_boats_100 (fun w100 H locs hM hm => ?_)
          have hp_this : At13 G w100 b thrown changes errorAt failedAt isSaved (upd (upd (upd v q69.toNatClampNeg (v 2)) q85.toNatClampNeg x1) q96.toNatClampNeg x2) before saved past far scratch best thenX thenY thenMet text line isLeft words wordAt textN hereP endP lineN isWrong isDoing := ⟨hm.keep (hp_this.1) (by omega), hm.1, hm.keep (hp_this.2.2.1) (by omega), hm.keep (hp_this.2.2.2.1) (by omega), hm.keep (hp_this.2.2.2.2.1) (by omega), hm.keep (hp_this.2.2.2.2.2.1) (by omega), hm.keep (hp_this.2.2.2.2.2.2.1) (by omega), hm.keep (hp_this.2.2.2.2.2.2.2.1) (by omega), hm.keep (hp_this.2.2.2.2.2.2.2.2.1) (by omega), hm.keep (hp_this.2.2.2.2.2.2.2.2.2.1) (by omega), hm.keep (hp_this.2.2.2.2.2.2.2.2.2.2.1) (by omega), hm.keep (hp_this.2.2.2.2.2.2.2.2.2.2.2.1) (by omega), hm.keep (hp_this.2.2.2.2.2.2.2.2.2.2.2.2) (by omega)⟩
          have hF := hF.tr (hm.fr (by omega) (by omega))
          refine lv_aload_n hx hb dX13_boats_101 rfl (lv_at hl 1 rfl) ?_
          refine mm_get hC hM (k := 5) hp_this.1 rfl inAX13 (by decide) q7_10 rfl dX13_boats_102 ?_
          refine lv_iload_n hx hb dX13_boats_105 rfl (lv_at hl 0 rfl) ?_
          refine lv_iconst (v := 3) hx hb dX13_boats_106 (by decide) ?_
          obtain ⟨q107, hq107, hf⟩ := mm_bd hf
          refine mm_Si (rest := [.ref (b + 1)]) hC hM (c_X13_of l hq107) q7_126 q1_12 ykX13_of q7_124 q7_125 ⟨rfl, rfl⟩ ⟨Nat.le_of_ble_eq_true rfl, Nat.le_of_ble_eq_true rfl⟩ rfl hl.1 rfl (Nat.le_of_ble_eq_true rfl) dX13_boats_107 ⟨Nat.le_of_ble_eq_true rfl, Nat.le_of_ble_eq_true rfl⟩ (fun r w107 H locs hM hw => ?_)
          obtain ⟨hr, hw⟩ := hw
          rw [hr]
          rw [hw] at hM
          refine lv_iconst (v := 0) hx hb dX13_boats_110 (by decide) ?_
          obtain ⟨hg111, hf⟩ := mm_gd hf
          refine mm_iast hC hM (hp_this.2.1) hg111 dX13_boats_111 (fun w111 H locs hM hm => ?_)
          have hp_this : At13 G w111 b thrown changes errorAt failedAt isSaved (upd (upd (upd (upd v q69.toNatClampNeg (v 2)) q85.toNatClampNeg x1) q96.toNatClampNeg x2) q107.toNatClampNeg 0) before saved past far scratch best thenX thenY thenMet text line isLeft words wordAt textN hereP endP lineN isWrong isDoing := ⟨hm.keep (hp_this.1) (by omega), hm.1, hm.keep (hp_this.2.2.1) (by omega), hm.keep (hp_this.2.2.2.1) (by omega), hm.keep (hp_this.2.2.2.2.1) (by omega), hm.keep (hp_this.2.2.2.2.2.1) (by omega), hm.keep (hp_this.2.2.2.2.2.2.1) (by omega), hm.keep (hp_this.2.2.2.2.2.2.2.1) (by omega), hm.keep (hp_this.2.2.2.2.2.2.2.2.1) (by omega), hm.keep (hp_this.2.2.2.2.2.2.2.2.2.1) (by omega), hm.keep (hp_this.2.2.2.2.2.2.2.2.2.2.1) (by omega), hm.keep (hp_this.2.2.2.2.2.2.2.2.2.2.2.1) (by omega), hm.keep (hp_this.2.2.2.2.2.2.2.2.2.2.2.2) (by omega)⟩
          have hF := hF.tr (hm.fr (by omega) (by omega))
          refine lv_aload_n hx hb dX13_boats_112 rfl (lv_at hl 1 rfl) ?_
          refine mm_get hC hM (k := 5) hp_this.1 rfl inAX13 (by decide) q7_10 rfl dX13_boats_113 ?_
          refine lv_iconst (v := 3) hx hb dX13_boats_116 (by decide) ?_
          refine lv_dup2_11 hx hb dX13_boats_117 rfl rfl ?_
          refine mm_ialdN (N := 3) hC hM (hp_this.2.1) (by decide) (by unfold vp_in; decide) dX13_boats_118 ?_
          refine lv_iconst (v := 1) hx hb dX13_boats_119 (by decide) ?_
          refine lv_iadd hx hb dX13_boats_120 ?_
          refine mm_iastN (N := 3) hC hM (hp_this.2.1) (by decide) (by unfold vp_in; decide) dX13_boats_121 (fun w121 H locs hM hm => ?_)
          have hp_this : At13 G w121 b thrown changes errorAt failedAt isSaved (upd (upd (upd (upd (upd v q69.toNatClampNeg (v 2)) q85.toNatClampNeg x1) q96.toNatClampNeg x2) q107.toNatClampNeg 0) 3 (((upd (upd (upd (upd v q69.toNatClampNeg (v 2)) q85.toNatClampNeg x1) q96.toNatClampNeg x2) q107.toNatClampNeg 0) 3) + 1)) before saved past far scratch best thenX thenY thenMet text line isLeft words wordAt textN hereP endP lineN isWrong isDoing := ⟨hm.keep (hp_this.1) (by omega), hm.1, hm.keep (hp_this.2.2.1) (by omega), hm.keep (hp_this.2.2.2.1) (by omega), hm.keep (hp_this.2.2.2.2.1) (by omega), hm.keep (hp_this.2.2.2.2.2.1) (by omega), hm.keep (hp_this.2.2.2.2.2.2.1) (by omega), hm.keep (hp_this.2.2.2.2.2.2.2.1) (by omega), hm.keep (hp_this.2.2.2.2.2.2.2.2.1) (by omega), hm.keep (hp_this.2.2.2.2.2.2.2.2.2.1) (by omega), hm.keep (hp_this.2.2.2.2.2.2.2.2.2.2.1) (by omega), hm.keep (hp_this.2.2.2.2.2.2.2.2.2.2.2.1) (by omega), hm.keep (hp_this.2.2.2.2.2.2.2.2.2.2.2.2) (by omega)⟩
          have hF := hF.tr (hm.fr (by omega) (by omega))
          refine lv_aload_n hx hb dX13_boats_122 rfl (lv_at hl 1 rfl) ?_
          refine mm_get hC hM (k := 5) hp_this.1 rfl inAX13 (by decide) q7_10 rfl dX13_boats_123 ?_
          refine lv_iconst (v := 2) hx hb dX13_boats_126 (by decide) ?_
          refine lv_dup2_11 hx hb dX13_boats_127 rfl rfl ?_
          refine mm_ialdN (N := 2) hC hM (hp_this.2.1) (by decide) (by unfold vp_in; decide) dX13_boats_128 ?_
          refine lv_iconst (v := 1) hx hb dX13_boats_129 (by decide) ?_
          refine lv_iadd hx hb dX13_boats_130 ?_
          refine mm_iastN (N := 2) hC hM (hp_this.2.1) (by decide) (by unfold vp_in; decide) dX13_boats_131 (fun w131 H locs hM hm => ?_)
          have hp_this : At13 G w131 b thrown changes errorAt failedAt isSaved (upd (upd (upd (upd (upd (upd v q69.toNatClampNeg (v 2)) q85.toNatClampNeg x1) q96.toNatClampNeg x2) q107.toNatClampNeg 0) 3 (((upd (upd (upd (upd v q69.toNatClampNeg (v 2)) q85.toNatClampNeg x1) q96.toNatClampNeg x2) q107.toNatClampNeg 0) 3) + 1)) 2 (((upd (upd (upd (upd (upd v q69.toNatClampNeg (v 2)) q85.toNatClampNeg x1) q96.toNatClampNeg x2) q107.toNatClampNeg 0) 3 (((upd (upd (upd (upd v q69.toNatClampNeg (v 2)) q85.toNatClampNeg x1) q96.toNatClampNeg x2) q107.toNatClampNeg 0) 3) + 1)) 2) + 1)) before saved past far scratch best thenX thenY thenMet text line isLeft words wordAt textN hereP endP lineN isWrong isDoing := ⟨hm.keep (hp_this.1) (by omega), hm.1, hm.keep (hp_this.2.2.1) (by omega), hm.keep (hp_this.2.2.2.1) (by omega), hm.keep (hp_this.2.2.2.2.1) (by omega), hm.keep (hp_this.2.2.2.2.2.1) (by omega), hm.keep (hp_this.2.2.2.2.2.2.1) (by omega), hm.keep (hp_this.2.2.2.2.2.2.2.1) (by omega), hm.keep (hp_this.2.2.2.2.2.2.2.2.1) (by omega), hm.keep (hp_this.2.2.2.2.2.2.2.2.2.1) (by omega), hm.keep (hp_this.2.2.2.2.2.2.2.2.2.2.1) (by omega), hm.keep (hp_this.2.2.2.2.2.2.2.2.2.2.2.1) (by omega), hm.keep (hp_this.2.2.2.2.2.2.2.2.2.2.2.2) (by omega)⟩
          have hF := hF.tr (hm.fr (by omega) (by omega))
          refine lv_aload_n hx hb dX13_boats_132 rfl (lv_at hl 1 rfl) ?_
          refine mm_get hC hM (k := 5) hp_this.1 rfl inAX13 (by decide) q7_10 rfl dX13_boats_133 ?_
          refine lv_iload_n hx hb dX13_boats_136 rfl (lv_at hl 0 rfl) ?_
          refine lv_iconst (v := 0) hx hb dX13_boats_137 (by decide) ?_
          obtain ⟨q138, hq138, hf⟩ := mm_bd hf
          refine mm_Si (rest := [.ref (b + 1)]) hC hM (c_X13_of l hq138) q7_126 q1_12 ykX13_of q7_124 q7_125 ⟨rfl, rfl⟩ ⟨Nat.le_of_ble_eq_true rfl, Nat.le_of_ble_eq_true rfl⟩ rfl hl.1 rfl (Nat.le_of_ble_eq_true rfl) dX13_boats_138 ⟨Nat.le_of_ble_eq_true rfl, Nat.le_of_ble_eq_true rfl⟩ (fun r w138 H locs hM hw => ?_)
          obtain ⟨hr, hw⟩ := hw
          rw [hr]
          rw [hw] at hM
          obtain ⟨hg141, hf⟩ := mm_gd hf
          refine mm_iald hC hM (hp_this.2.1) hg141 dX13_boats_141 ?_
          cases hf
          exact hret hM dX13_boats_142 rfl ⟨rfl, hp_this, hF⟩
        · rw [if_neg hcd] at hf
          refine lv_aload_n hx hb dX13_boats_57 rfl (lv_at hl 1 rfl) ?_
          refine lv_iconst (v := 3) hx hb dX13_boats_58 (by decide) ?_
          obtain ⟨q59, hq59, hf⟩ := mm_bd hf
          refine mm_Vi (rest := []) hC hM (c_X13_fail l hq59 hp_this) q7_112 q1_12 ykX13_fail q7_109 q7_111 qp_bcc4f98e hp_this.1 rfl ⟨rfl, rfl⟩ ⟨Nat.le_of_ble_eq_true rfl, Nat.le_of_ble_eq_true rfl⟩ rfl hl.1 rfl (Nat.le_of_ble_eq_true rfl) dX13_boats_59 ⟨Nat.le_of_ble_eq_true rfl, Nat.le_of_ble_eq_true rfl⟩ (fun r w59 H locs hM hw => ?_)
          obtain ⟨hr, hn_this, hfr⟩ := hw
          rw [hr]
          have hp_this := hn_this
          have hF := hF.tr (hfr.wide (by omega) (by omega))
          cases hf
          exact hret hM dX13_boats_62 rfl ⟨rfl, hp_this, hF⟩
    · rw [if_pos hcd] at hf
      refine lv_aload_n hx hb dX13_boats_26 rfl (lv_at hl 1 rfl) ?_
      refine lv_iconst (v := 2) hx hb dX13_boats_27 (by decide) ?_
      obtain ⟨q28, hq28, hf⟩ := mm_bd hf
      refine mm_Vi (rest := []) hC hM (c_X13_fail l hq28 hp_this) q7_112 q1_12 ykX13_fail q7_109 q7_111 qp_bcc4f98e hp_this.1 rfl ⟨rfl, rfl⟩ ⟨Nat.le_of_ble_eq_true rfl, Nat.le_of_ble_eq_true rfl⟩ rfl hl.1 rfl (Nat.le_of_ble_eq_true rfl) dX13_boats_28 ⟨Nat.le_of_ble_eq_true rfl, Nat.le_of_ble_eq_true rfl⟩ (fun r w28 H locs hM hw => ?_)
      obtain ⟨hr, hn_this, hfr⟩ := hw
      rw [hr]
      have hp_this := hn_this
      have hF := hF.tr (hfr.wide (by omega) (by omega))
      cases hf
      exact hret hM dX13_boats_31 rfl ⟨rfl, hp_this, hF⟩
  · rw [if_pos hcd] at hf
    refine lv_aload_n hx hb dX13_boats_8 rfl (lv_at hl 0 rfl) ?_
    refine lv_iconst (v := 1) hx hb dX13_boats_9 (by decide) ?_
    obtain ⟨q10, hq10, hf⟩ := mm_bd hf
    refine mm_Vi (rest := []) hC hM (c_X13_fail l hq10 hp_this) q7_112 q1_12 ykX13_fail q7_109 q7_111 qp_bcc4f98e hp_this.1 rfl ⟨rfl, rfl⟩ ⟨Nat.le_of_ble_eq_true rfl, Nat.le_of_ble_eq_true rfl⟩ rfl hl.1 rfl (Nat.le_of_ble_eq_true rfl) dX13_boats_10 ⟨Nat.le_of_ble_eq_true rfl, Nat.le_of_ble_eq_true rfl⟩ (fun r w10 H locs hM hw => ?_)
    obtain ⟨hr, hn_this, hfr⟩ := hw
    rw [hr]
    have hp_this := hn_this
    have hF := hF.tr (hfr.wide (by omega) (by omega))
    cases hf
    exact hret hM dX13_boats_13 rfl ⟨rfl, hp_this, hF⟩
def f_X13_addBoat (K : Nat) (changes : Int32) (v : Nat → Int32) (before : Nat → Int32) (past : Nat → Int32) (x1 : Int32) (x2 : Int32) : Option (Int32 × Int32 × Int32 × (Nat → Int32) × (Nat → Int32) × (Nat → Int32)) := (f_X13_begins K v before).bind fun q1 => (f_X13_boats K q1.1 v x1 x2).bind fun q8 => (f_X13_ends K q8.2.1 changes q8.2.2 q1.2 past q8.1).bind fun q11 => some (q11.1, q8.2.1, q11.2.1, q11.2.2.1, q1.2, q11.2.2.2)
set_option maxHeartbeats 4000000 in
set_option maxRecDepth 100000 in
theorem c_X13_addBoat (l : Launch) {G : mm_G} {K : Nat} {w : va_W} {sz : Nat} {b : Nat} {thrown : Int32} {changes : Int32} {errorAt : Int32} {failedAt : Int32} {isSaved : Int32} {v : Nat → Int32} {before : Nat → Int32} {saved : Nat → Int32} {past : Nat → Int32} {far : Nat → Int32} {scratch : Nat → Int32} {best : Nat → Int32} {thenX : Int32} {thenY : Int32} {thenMet : Int32} {text : Nat → Int32} {line : Nat → Int32} {isLeft : Nat → Int32} {words : Nat → Int32} {wordAt : Nat → Int32} {textN : Int32} {hereP : Int32} {endP : Int32} {lineN : Int32} {isWrong : Int32} {isDoing : Int32} {x1 : Int32} {x2 : Int32} {X : Int32 × Int32 × Int32 × (Nat → Int32) × (Nat → Int32) × (Nat → Int32)} (hf : f_X13_addBoat K changes v before past x1 x2 = some X) (hp_this : At13 G w b thrown changes errorAt failedAt isSaved v before saved past far scratch best thenX thenY thenMet text line isLeft words wordAt textN hereP endP lineN isWrong isDoing) : Met l yX13_addBoat (Cond.code yX13_addBoat cX13_addBoat 3 (some .int) :: gAll) ({ frames := 4, cells := 0, slots := 0, locals := 88 }) (va_Pc [.ref b, .int x1, .int x2] (mm_Pre G w sz)) (mm_Qi G w sz (fun r w' => r = X.1 ∧ At13 G w' b X.2.1 X.2.2.1 errorAt failedAt isSaved X.2.2.2.1 X.2.2.2.2.1 saved X.2.2.2.2.2 far scratch best thenX thenY thenMet text line isLeft words wordAt textN hereP endP lineN isWrong isDoing ∧ mm_fr w w' b (b + 13))) 0 0 (va_A w sz) := by
  refine mm_headI [.ref b, .int x1, .int x2] (by decide +kernel) rfl (Nat.le_of_ble_eq_true rfl) ?_
  intro p e s m args below meth c A Q hsz hC hM hret ls hl
  have hx := hC.1.1
  have hb := hC.1.2.1
  have hl : lv_has ls 3 [(0, .ref b), (1, .int x1), (2, .int x2)] := hl
  have hF : mm_fr w w b (b + 13) := mm_fr.rf
  rw [f_X13_addBoat] at hf
  refine lv_aload_n hx hb dX13_addBoat_0 rfl (lv_at hl 0 rfl) ?_
  obtain ⟨q1, hq1, hf⟩ := mm_bd hf
  refine mm_Vv (rest := []) hC hM (c_X13_begins l hq1 hp_this) q7_95 q1_12 ykX13_begins q7_92 q7_94 qp_0e68fe50 hp_this.1 rfl ⟨rfl, rfl⟩ ⟨Nat.le_of_ble_eq_true rfl, Nat.le_of_ble_eq_true rfl⟩ rfl hl.1 rfl (Nat.le_of_ble_eq_true rfl) dX13_addBoat_1 ⟨Nat.le_of_ble_eq_true rfl, Nat.le_of_ble_eq_true rfl⟩ (fun w1 H locs hM hw => ?_)
  obtain ⟨hn_this, hfr⟩ := hw
  have hp_this := hn_this
  have hF := hF.tr (hfr.wide (by omega) (by omega))
  refine lv_aload_n hx hb dX13_addBoat_4 rfl (lv_at hl 0 rfl) ?_
  refine lv_aload_n hx hb dX13_addBoat_5 rfl (lv_at hl 0 rfl) ?_
  refine lv_iload_n hx hb dX13_addBoat_6 rfl (lv_at hl 1 rfl) ?_
  refine lv_iload_n hx hb dX13_addBoat_7 rfl (lv_at hl 2 rfl) ?_
  obtain ⟨q8, hq8, hf⟩ := mm_bd hf
  refine mm_Vi (rest := [.ref b]) hC hM (c_X13_boats l hq8 hp_this) q7_210 q1_12 ykX13_boats q7_207 q7_209 qp_9bbcd35d hp_this.1 rfl ⟨rfl, rfl⟩ ⟨Nat.le_of_ble_eq_true rfl, Nat.le_of_ble_eq_true rfl⟩ rfl hl.1 rfl (Nat.le_of_ble_eq_true rfl) dX13_addBoat_8 ⟨Nat.le_of_ble_eq_true rfl, Nat.le_of_ble_eq_true rfl⟩ (fun r w8 H locs hM hw => ?_)
  obtain ⟨hr, hn_this, hfr⟩ := hw
  rw [hr]
  have hp_this := hn_this
  have hF := hF.tr (hfr.wide (by omega) (by omega))
  obtain ⟨q11, hq11, hf⟩ := mm_bd hf
  refine mm_Vi (rest := []) hC hM (c_X13_ends l hq11 hp_this) q7_133 q1_12 ykX13_ends q7_130 q7_132 qp_952383d2 hp_this.1 rfl ⟨rfl, rfl⟩ ⟨Nat.le_of_ble_eq_true rfl, Nat.le_of_ble_eq_true rfl⟩ rfl hl.1 rfl (Nat.le_of_ble_eq_true rfl) dX13_addBoat_11 ⟨Nat.le_of_ble_eq_true rfl, Nat.le_of_ble_eq_true rfl⟩ (fun r w11 H locs hM hw => ?_)
  obtain ⟨hr, hn_this, hfr⟩ := hw
  rw [hr]
  have hp_this := hn_this
  have hF := hF.tr (hfr.wide (by omega) (by omega))
  cases hf
  exact hret hM dX13_addBoat_14 rfl ⟨rfl, hp_this, hF⟩
def f_X13_leaves_L27 : Nat → (Int32) → (Nat → Int32) → Option (Nat → Int32)
  | 0, _, _ => none
  | n + 1, x3, v => if 104 ≤ x3 then some v else if 104 ≤ (x3 + 4) then mm_g (mm_ck x3 238) (f_X13_leaves_L27 n (x3 + 1) (upd v x3.toNatClampNeg 0)) else mm_g (mm_ck (x3 + 4) 238) (mm_g (mm_ck x3 238) (f_X13_leaves_L27 n (x3 + 1) (upd v x3.toNatClampNeg (v (x3 + 4).toNatClampNeg))))
def f_X13_leaves (K : Nat) (thrown : Int32) (v : Nat → Int32) (x1 : Int32) : Option (Int32 × Int32 × (Nat → Int32)) := if 0 ≤ x1 then (f_X13_of x1 3).bind fun q16 => mm_g (mm_ck q16 238) ((f_X13_of x1 0).bind fun q23 => (f_X13_leaves_L27 K q23 v).bind fun q27 => some ((v q16.toNatClampNeg), thrown, (upd (upd q27 3 ((q27 3) - 1)) 5 (((upd q27 3 ((q27 3) - 1)) 5) + (v q16.toNatClampNeg))))) else (f_X13_fail 1).bind fun q6 => some (q6.1, q6.2, v)
set_option maxHeartbeats 4000000 in
set_option maxRecDepth 100000 in
theorem c_X13_leaves (l : Launch) {G : mm_G} {K : Nat} {w : va_W} {sz : Nat} {b : Nat} {thrown : Int32} {changes : Int32} {errorAt : Int32} {failedAt : Int32} {isSaved : Int32} {v : Nat → Int32} {before : Nat → Int32} {saved : Nat → Int32} {past : Nat → Int32} {far : Nat → Int32} {scratch : Nat → Int32} {best : Nat → Int32} {thenX : Int32} {thenY : Int32} {thenMet : Int32} {text : Nat → Int32} {line : Nat → Int32} {isLeft : Nat → Int32} {words : Nat → Int32} {wordAt : Nat → Int32} {textN : Int32} {hereP : Int32} {endP : Int32} {lineN : Int32} {isWrong : Int32} {isDoing : Int32} {x1 : Int32} {X : Int32 × Int32 × (Nat → Int32)} (hf : f_X13_leaves K thrown v x1 = some X) (hp_this : At13 G w b thrown changes errorAt failedAt isSaved v before saved past far scratch best thenX thenY thenMet text line isLeft words wordAt textN hereP endP lineN isWrong isDoing) : Met l yX13_leaves (Cond.code yX13_leaves cX13_leaves 4 (some .int) :: gAll) ({ frames := 1, cells := 0, slots := 0, locals := 21 }) (va_Pc [.ref b, .int x1] (mm_Pre G w sz)) (mm_Qi G w sz (fun r w' => r = X.1 ∧ At13 G w' b X.2.1 changes errorAt failedAt isSaved X.2.2 before saved past far scratch best thenX thenY thenMet text line isLeft words wordAt textN hereP endP lineN isWrong isDoing ∧ mm_fr w w' b (b + 13))) 0 0 (va_A w sz) := by
  refine mm_headI [.ref b, .int x1] (by decide +kernel) rfl (Nat.le_of_ble_eq_true rfl) ?_
  intro p e s m args below meth c A Q hsz hC hM hret ls hl
  have hx := hC.1.1
  have hb := hC.1.2.1
  have hl : lv_has ls 4 [(0, .ref b), (1, .int x1)] := hl
  have hF : mm_fr w w b (b + 13) := mm_fr.rf
  rw [f_X13_leaves] at hf
  refine lv_iload_n hx hb dX13_leaves_0 rfl (lv_at hl 1 rfl) ?_
  refine lv_if_ge (tgt := 10) hx hb dX13_leaves_1 (by decide) (fun hcd => ?_) (fun hcd => ?_)
  · rw [if_pos hcd] at hf
    refine lv_aload_n hx hb dX13_leaves_10 rfl (lv_at hl 0 rfl) ?_
    refine mm_get hC hM (k := 5) hp_this.1 rfl inAX13 (by decide) q7_10 rfl dX13_leaves_11 ?_
    refine lv_iload_n hx hb dX13_leaves_14 rfl (lv_at hl 1 rfl) ?_
    refine lv_iconst (v := 3) hx hb dX13_leaves_15 (by decide) ?_
    obtain ⟨q16, hq16, hf⟩ := mm_bd hf
    refine mm_Si (rest := [.ref (b + 1)]) hC hM (c_X13_of l hq16) q7_126 q1_12 ykX13_of q7_124 q7_125 ⟨rfl, rfl⟩ ⟨Nat.le_of_ble_eq_true rfl, Nat.le_of_ble_eq_true rfl⟩ rfl hl.1 rfl (Nat.le_of_ble_eq_true rfl) dX13_leaves_16 ⟨Nat.le_of_ble_eq_true rfl, Nat.le_of_ble_eq_true rfl⟩ (fun r w16 H locs hM hw => ?_)
    obtain ⟨hr, hw⟩ := hw
    rw [hr]
    rw [hw] at hM
    obtain ⟨hg19, hf⟩ := mm_gd hf
    refine mm_iald hC hM (hp_this.2.1) hg19 dX13_leaves_19 ?_
    refine lv_istore_n (lv' := [(2, .int (v q16.toNatClampNeg)), (0, .ref b), (1, .int x1)]) hx hb dX13_leaves_20 rfl hl (by decide) rfl (fun ls hl => ?_)
    refine lv_iload_n hx hb dX13_leaves_21 rfl (lv_at hl 2 rfl) ?_
    refine lv_iconst (v := 0) hx hb dX13_leaves_22 (by decide) ?_
    obtain ⟨q23, hq23, hf⟩ := mm_bd hf
    refine mm_Si (rest := []) hC hM (c_X13_of l hq23) q7_126 q1_12 ykX13_of q7_124 q7_125 ⟨rfl, rfl⟩ ⟨Nat.le_of_ble_eq_true rfl, Nat.le_of_ble_eq_true rfl⟩ rfl hl.1 rfl (Nat.le_of_ble_eq_true rfl) dX13_leaves_23 ⟨Nat.le_of_ble_eq_true rfl, Nat.le_of_ble_eq_true rfl⟩ (fun r w23 H locs hM hw => ?_)
    obtain ⟨hr, hw⟩ := hw
    rw [hr]
    rw [hw] at hM
    refine lv_istore_n (lv' := [(3, .int q23), (2, .int (v q16.toNatClampNeg)), (0, .ref b), (1, .int x1)]) hx hb dX13_leaves_26 rfl hl (by decide) rfl (fun ls hl => ?_)
    have L27 : ∀ (n : Nat) (L27_x3 : Int32) (L27_v : Nat → Int32) (X : Nat → Int32), f_X13_leaves_L27 n L27_x3 L27_v = some X → ∀ (L27_w : va_W) (H : Heap) (locs : List Loc), mm_S G A s.heap L27_w H locs → At13 G L27_w b thrown changes errorAt failedAt isSaved L27_v before saved past far scratch best thenX thenY thenMet text line isLeft words wordAt textN hereP endP lineN isWrong isDoing → mm_fr w L27_w b (b + 13) → ∀ (ls : Array Slot), lv_has ls 4 [(0, .ref b), (2, .int (v q16.toNatClampNeg)), (3, .int L27_x3)] → (∀ (w9 : va_W) (H : Heap) (locs : List Loc), mm_S G A s.heap w9 H locs → At13 G w9 b thrown changes errorAt failedAt isSaved X before saved past far scratch best thenX thenY thenMet text line isLeft words wordAt textN hereP endP lineN isWrong isDoing → mm_fr w w9 b (b + 13) → ∀ (ls : Array Slot), lv_has ls 4 [(0, .ref b), (2, .int (v q16.toNatClampNeg))] → W p l e ({ frames := 1, cells := 0, slots := 0, locals := 21 } : Room) s m args below meth c H locs 0 0 Q (F0 m 65 ls [])) → W p l e ({ frames := 1, cells := 0, slots := 0, locals := 21 } : Room) s m args below meth c H locs 0 0 Q (F0 m 27 ls []) := by
      intro n
      induction n with
      | zero => intro L27_x3 L27_v X hf; cases hf
      | succ n ih =>
        intro L27_x3 L27_v X hf L27_w H locs hM hp_this hF ls hl hk
        rw [f_X13_leaves_L27] at hf
        refine lv_iload_n hx hb dX13_leaves_27 rfl (lv_at hl 2 rfl) ?_
        refine lv_bipush (v := 104) hx hb dX13_leaves_28 (by decide) ?_
        refine lv_icmp_ge (tgt := 65) hx hb dX13_leaves_30 (by decide) (fun hcd => ?_) (fun hcd => ?_)
        · rw [if_pos hcd] at hf
          cases hf
          exact hk _ _ _ hM hp_this hF _ (lv_sub hl [0, 1] rfl)
        · rw [if_neg hcd] at hf
          refine lv_aload_n hx hb dX13_leaves_33 rfl (lv_at hl 0 rfl) ?_
          refine mm_get hC hM (k := 5) hp_this.1 rfl inAX13 (by decide) q7_10 rfl dX13_leaves_34 ?_
          refine lv_iload_n hx hb dX13_leaves_37 rfl (lv_at hl 2 rfl) ?_
          refine lv_iload_n hx hb dX13_leaves_38 rfl (lv_at hl 2 rfl) ?_
          refine lv_iconst (v := 4) hx hb dX13_leaves_39 (by decide) ?_
          refine lv_iadd hx hb dX13_leaves_40 ?_
          refine lv_bipush (v := 104) hx hb dX13_leaves_41 (by decide) ?_
          refine lv_icmp_ge (tgt := 57) hx hb dX13_leaves_43 (by decide) (fun hcd => ?_) (fun hcd => ?_)
          · rw [if_pos hcd] at hf
            refine lv_iconst (v := 0) hx hb dX13_leaves_57 (by decide) ?_
            obtain ⟨hg58, hf⟩ := mm_gd hf
            refine mm_iast hC hM (hp_this.2.1) hg58 dX13_leaves_58 (fun w58 H locs hM hm => ?_)
            have hp_this : At13 G w58 b thrown changes errorAt failedAt isSaved (upd L27_v L27_x3.toNatClampNeg 0) before saved past far scratch best thenX thenY thenMet text line isLeft words wordAt textN hereP endP lineN isWrong isDoing := ⟨hm.keep (hp_this.1) (by omega), hm.1, hm.keep (hp_this.2.2.1) (by omega), hm.keep (hp_this.2.2.2.1) (by omega), hm.keep (hp_this.2.2.2.2.1) (by omega), hm.keep (hp_this.2.2.2.2.2.1) (by omega), hm.keep (hp_this.2.2.2.2.2.2.1) (by omega), hm.keep (hp_this.2.2.2.2.2.2.2.1) (by omega), hm.keep (hp_this.2.2.2.2.2.2.2.2.1) (by omega), hm.keep (hp_this.2.2.2.2.2.2.2.2.2.1) (by omega), hm.keep (hp_this.2.2.2.2.2.2.2.2.2.2.1) (by omega), hm.keep (hp_this.2.2.2.2.2.2.2.2.2.2.2.1) (by omega), hm.keep (hp_this.2.2.2.2.2.2.2.2.2.2.2.2) (by omega)⟩
            have hF := hF.tr (hm.fr (by omega) (by omega))
            refine lv_iinc (v := (L27_x3 + 1)) (lv' := [(3, .int (L27_x3 + 1)), (0, .ref b), (2, .int (v q16.toNatClampNeg))]) hx hb dX13_leaves_59 hl (k := 2) rfl rfl (by decide) rfl (fun ls hl => ?_)
            refine lv_goto (tgt := 27) hx hb dX13_leaves_62 (by decide) ?_
            exact ih _ _ _ hf _ _ _ hM hp_this hF _ (lv_sub hl [1, 2, 0] rfl) hk
          · rw [if_neg hcd] at hf
            refine lv_aload_n hx hb dX13_leaves_46 rfl (lv_at hl 0 rfl) ?_
            refine mm_get hC hM (k := 5) hp_this.1 rfl inAX13 (by decide) q7_10 rfl dX13_leaves_47 ?_
            refine lv_iload_n hx hb dX13_leaves_50 rfl (lv_at hl 2 rfl) ?_
            refine lv_iconst (v := 4) hx hb dX13_leaves_51 (by decide) ?_
            refine lv_iadd hx hb dX13_leaves_52 ?_
            obtain ⟨hg53, hf⟩ := mm_gd hf
            refine mm_iald hC hM (hp_this.2.1) hg53 dX13_leaves_53 ?_
            refine lv_goto (tgt := 58) hx hb dX13_leaves_54 (by decide) ?_
            obtain ⟨hg58, hf⟩ := mm_gd hf
            refine mm_iast hC hM (hp_this.2.1) hg58 dX13_leaves_58 (fun w58 H locs hM hm => ?_)
            have hp_this : At13 G w58 b thrown changes errorAt failedAt isSaved (upd L27_v L27_x3.toNatClampNeg (L27_v (L27_x3 + 4).toNatClampNeg)) before saved past far scratch best thenX thenY thenMet text line isLeft words wordAt textN hereP endP lineN isWrong isDoing := ⟨hm.keep (hp_this.1) (by omega), hm.1, hm.keep (hp_this.2.2.1) (by omega), hm.keep (hp_this.2.2.2.1) (by omega), hm.keep (hp_this.2.2.2.2.1) (by omega), hm.keep (hp_this.2.2.2.2.2.1) (by omega), hm.keep (hp_this.2.2.2.2.2.2.1) (by omega), hm.keep (hp_this.2.2.2.2.2.2.2.1) (by omega), hm.keep (hp_this.2.2.2.2.2.2.2.2.1) (by omega), hm.keep (hp_this.2.2.2.2.2.2.2.2.2.1) (by omega), hm.keep (hp_this.2.2.2.2.2.2.2.2.2.2.1) (by omega), hm.keep (hp_this.2.2.2.2.2.2.2.2.2.2.2.1) (by omega), hm.keep (hp_this.2.2.2.2.2.2.2.2.2.2.2.2) (by omega)⟩
            have hF := hF.tr (hm.fr (by omega) (by omega))
            refine lv_iinc (v := (L27_x3 + 1)) (lv' := [(3, .int (L27_x3 + 1)), (0, .ref b), (2, .int (v q16.toNatClampNeg))]) hx hb dX13_leaves_59 hl (k := 2) rfl rfl (by decide) rfl (fun ls hl => ?_)
            refine lv_goto (tgt := 27) hx hb dX13_leaves_62 (by decide) ?_
            exact ih _ _ _ hf _ _ _ hM hp_this hF _ (lv_sub hl [1, 2, 0] rfl) hk
    obtain ⟨q27, hq27, hf⟩ := mm_bd hf
    refine L27 K _ _ _ hq27 _ _ _ hM hp_this hF _ (lv_sub hl [2, 1, 0] rfl) (fun w27 H locs hM hp_this hF ls hl => ?_)
    refine lv_aload_n hx hb dX13_leaves_65 rfl (lv_at hl 0 rfl) ?_
    refine mm_get hC hM (k := 5) hp_this.1 rfl inAX13 (by decide) q7_10 rfl dX13_leaves_66 ?_
    refine lv_iconst (v := 3) hx hb dX13_leaves_69 (by decide) ?_
    refine lv_dup2_11 hx hb dX13_leaves_70 rfl rfl ?_
    refine mm_ialdN (N := 3) hC hM (hp_this.2.1) (by decide) (by unfold vp_in; decide) dX13_leaves_71 ?_
    refine lv_iconst (v := 1) hx hb dX13_leaves_72 (by decide) ?_
    refine lv_isub hx hb dX13_leaves_73 ?_
    refine mm_iastN (N := 3) hC hM (hp_this.2.1) (by decide) (by unfold vp_in; decide) dX13_leaves_74 (fun w74 H locs hM hm => ?_)
    have hp_this : At13 G w74 b thrown changes errorAt failedAt isSaved (upd q27 3 ((q27 3) - 1)) before saved past far scratch best thenX thenY thenMet text line isLeft words wordAt textN hereP endP lineN isWrong isDoing := ⟨hm.keep (hp_this.1) (by omega), hm.1, hm.keep (hp_this.2.2.1) (by omega), hm.keep (hp_this.2.2.2.1) (by omega), hm.keep (hp_this.2.2.2.2.1) (by omega), hm.keep (hp_this.2.2.2.2.2.1) (by omega), hm.keep (hp_this.2.2.2.2.2.2.1) (by omega), hm.keep (hp_this.2.2.2.2.2.2.2.1) (by omega), hm.keep (hp_this.2.2.2.2.2.2.2.2.1) (by omega), hm.keep (hp_this.2.2.2.2.2.2.2.2.2.1) (by omega), hm.keep (hp_this.2.2.2.2.2.2.2.2.2.2.1) (by omega), hm.keep (hp_this.2.2.2.2.2.2.2.2.2.2.2.1) (by omega), hm.keep (hp_this.2.2.2.2.2.2.2.2.2.2.2.2) (by omega)⟩
    have hF := hF.tr (hm.fr (by omega) (by omega))
    refine lv_aload_n hx hb dX13_leaves_75 rfl (lv_at hl 0 rfl) ?_
    refine mm_get hC hM (k := 5) hp_this.1 rfl inAX13 (by decide) q7_10 rfl dX13_leaves_76 ?_
    refine lv_iconst (v := 5) hx hb dX13_leaves_79 (by decide) ?_
    refine lv_dup2_11 hx hb dX13_leaves_80 rfl rfl ?_
    refine mm_ialdN (N := 5) hC hM (hp_this.2.1) (by decide) (by unfold vp_in; decide) dX13_leaves_81 ?_
    refine lv_iload_n hx hb dX13_leaves_82 rfl (lv_at hl 1 rfl) ?_
    refine lv_iadd hx hb dX13_leaves_83 ?_
    refine mm_iastN (N := 5) hC hM (hp_this.2.1) (by decide) (by unfold vp_in; decide) dX13_leaves_84 (fun w84 H locs hM hm => ?_)
    have hp_this : At13 G w84 b thrown changes errorAt failedAt isSaved (upd (upd q27 3 ((q27 3) - 1)) 5 (((upd q27 3 ((q27 3) - 1)) 5) + (v q16.toNatClampNeg))) before saved past far scratch best thenX thenY thenMet text line isLeft words wordAt textN hereP endP lineN isWrong isDoing := ⟨hm.keep (hp_this.1) (by omega), hm.1, hm.keep (hp_this.2.2.1) (by omega), hm.keep (hp_this.2.2.2.1) (by omega), hm.keep (hp_this.2.2.2.2.1) (by omega), hm.keep (hp_this.2.2.2.2.2.1) (by omega), hm.keep (hp_this.2.2.2.2.2.2.1) (by omega), hm.keep (hp_this.2.2.2.2.2.2.2.1) (by omega), hm.keep (hp_this.2.2.2.2.2.2.2.2.1) (by omega), hm.keep (hp_this.2.2.2.2.2.2.2.2.2.1) (by omega), hm.keep (hp_this.2.2.2.2.2.2.2.2.2.2.1) (by omega), hm.keep (hp_this.2.2.2.2.2.2.2.2.2.2.2.1) (by omega), hm.keep (hp_this.2.2.2.2.2.2.2.2.2.2.2.2) (by omega)⟩
    have hF := hF.tr (hm.fr (by omega) (by omega))
    refine lv_iload_n hx hb dX13_leaves_85 rfl (lv_at hl 1 rfl) ?_
    cases hf
    exact hret hM dX13_leaves_86 rfl ⟨rfl, hp_this, hF⟩
  · rw [if_neg hcd] at hf
    refine lv_aload_n hx hb dX13_leaves_4 rfl (lv_at hl 0 rfl) ?_
    refine lv_iconst (v := 1) hx hb dX13_leaves_5 (by decide) ?_
    obtain ⟨q6, hq6, hf⟩ := mm_bd hf
    refine mm_Vi (rest := []) hC hM (c_X13_fail l hq6 hp_this) q7_112 q1_12 ykX13_fail q7_109 q7_111 qp_bcc4f98e hp_this.1 rfl ⟨rfl, rfl⟩ ⟨Nat.le_of_ble_eq_true rfl, Nat.le_of_ble_eq_true rfl⟩ rfl hl.1 rfl (Nat.le_of_ble_eq_true rfl) dX13_leaves_6 ⟨Nat.le_of_ble_eq_true rfl, Nat.le_of_ble_eq_true rfl⟩ (fun r w6 H locs hM hw => ?_)
    obtain ⟨hr, hn_this, hfr⟩ := hw
    rw [hr]
    have hp_this := hn_this
    have hF := hF.tr (hfr.wide (by omega) (by omega))
    cases hf
    exact hret hM dX13_leaves_9 rfl ⟨rfl, hp_this, hF⟩
def f_X13_removeBoat (K : Nat) (changes : Int32) (v : Nat → Int32) (before : Nat → Int32) (past : Nat → Int32) (x1 : Int32) : Option (Int32 × Int32 × Int32 × (Nat → Int32) × (Nat → Int32) × (Nat → Int32)) := (f_X13_begins K v before).bind fun q1 => (f_X13_find K v x1).bind fun q8 => (f_X13_leaves K q1.1 v q8).bind fun q11 => (f_X13_ends K q11.2.1 changes q11.2.2 q1.2 past q11.1).bind fun q14 => some (q14.1, q11.2.1, q14.2.1, q14.2.2.1, q1.2, q14.2.2.2)
set_option maxHeartbeats 4000000 in
set_option maxRecDepth 100000 in
theorem c_X13_removeBoat (l : Launch) {G : mm_G} {K : Nat} {w : va_W} {sz : Nat} {b : Nat} {thrown : Int32} {changes : Int32} {errorAt : Int32} {failedAt : Int32} {isSaved : Int32} {v : Nat → Int32} {before : Nat → Int32} {saved : Nat → Int32} {past : Nat → Int32} {far : Nat → Int32} {scratch : Nat → Int32} {best : Nat → Int32} {thenX : Int32} {thenY : Int32} {thenMet : Int32} {text : Nat → Int32} {line : Nat → Int32} {isLeft : Nat → Int32} {words : Nat → Int32} {wordAt : Nat → Int32} {textN : Int32} {hereP : Int32} {endP : Int32} {lineN : Int32} {isWrong : Int32} {isDoing : Int32} {x1 : Int32} {X : Int32 × Int32 × Int32 × (Nat → Int32) × (Nat → Int32) × (Nat → Int32)} (hf : f_X13_removeBoat K changes v before past x1 = some X) (hp_this : At13 G w b thrown changes errorAt failedAt isSaved v before saved past far scratch best thenX thenY thenMet text line isLeft words wordAt textN hereP endP lineN isWrong isDoing) : Met l yX13_removeBoat (Cond.code yX13_removeBoat cX13_removeBoat 2 (some .int) :: gAll) ({ frames := 2, cells := 0, slots := 0, locals := 44 }) (va_Pc [.ref b, .int x1] (mm_Pre G w sz)) (mm_Qi G w sz (fun r w' => r = X.1 ∧ At13 G w' b X.2.1 X.2.2.1 errorAt failedAt isSaved X.2.2.2.1 X.2.2.2.2.1 saved X.2.2.2.2.2 far scratch best thenX thenY thenMet text line isLeft words wordAt textN hereP endP lineN isWrong isDoing ∧ mm_fr w w' b (b + 13))) 0 0 (va_A w sz) := by
  refine mm_headI [.ref b, .int x1] (by decide +kernel) rfl (Nat.le_of_ble_eq_true rfl) ?_
  intro p e s m args below meth c A Q hsz hC hM hret ls hl
  have hx := hC.1.1
  have hb := hC.1.2.1
  have hl : lv_has ls 2 [(0, .ref b), (1, .int x1)] := hl
  have hF : mm_fr w w b (b + 13) := mm_fr.rf
  rw [f_X13_removeBoat] at hf
  refine lv_aload_n hx hb dX13_removeBoat_0 rfl (lv_at hl 0 rfl) ?_
  obtain ⟨q1, hq1, hf⟩ := mm_bd hf
  refine mm_Vv (rest := []) hC hM (c_X13_begins l hq1 hp_this) q7_95 q1_12 ykX13_begins q7_92 q7_94 qp_0e68fe50 hp_this.1 rfl ⟨rfl, rfl⟩ ⟨Nat.le_of_ble_eq_true rfl, Nat.le_of_ble_eq_true rfl⟩ rfl hl.1 rfl (Nat.le_of_ble_eq_true rfl) dX13_removeBoat_1 ⟨Nat.le_of_ble_eq_true rfl, Nat.le_of_ble_eq_true rfl⟩ (fun w1 H locs hM hw => ?_)
  obtain ⟨hn_this, hfr⟩ := hw
  have hp_this := hn_this
  have hF := hF.tr (hfr.wide (by omega) (by omega))
  refine lv_aload_n hx hb dX13_removeBoat_4 rfl (lv_at hl 0 rfl) ?_
  refine lv_aload_n hx hb dX13_removeBoat_5 rfl (lv_at hl 0 rfl) ?_
  refine lv_aload_n hx hb dX13_removeBoat_6 rfl (lv_at hl 0 rfl) ?_
  refine lv_iload_n hx hb dX13_removeBoat_7 rfl (lv_at hl 1 rfl) ?_
  obtain ⟨q8, hq8, hf⟩ := mm_bd hf
  refine mm_Vi (rest := [.ref b, .ref b]) hC hM (c_X13_find l hq8 hp_this) q7_218 q1_12 ykX13_find q7_215 q7_217 qp_0f7fdc43 hp_this.1 rfl ⟨rfl, rfl⟩ ⟨Nat.le_of_ble_eq_true rfl, Nat.le_of_ble_eq_true rfl⟩ rfl hl.1 rfl (Nat.le_of_ble_eq_true rfl) dX13_removeBoat_8 ⟨Nat.le_of_ble_eq_true rfl, Nat.le_of_ble_eq_true rfl⟩ (fun r w8 H locs hM hw => ?_)
  obtain ⟨hr, hw⟩ := hw
  rw [hr]
  rw [hw] at hM
  obtain ⟨q11, hq11, hf⟩ := mm_bd hf
  refine mm_Vi (rest := [.ref b]) hC hM (c_X13_leaves l hq11 hp_this) q7_222 q1_12 ykX13_leaves q7_219 q7_221 qp_280da862 hp_this.1 rfl ⟨rfl, rfl⟩ ⟨Nat.le_of_ble_eq_true rfl, Nat.le_of_ble_eq_true rfl⟩ rfl hl.1 rfl (Nat.le_of_ble_eq_true rfl) dX13_removeBoat_11 ⟨Nat.le_of_ble_eq_true rfl, Nat.le_of_ble_eq_true rfl⟩ (fun r w11 H locs hM hw => ?_)
  obtain ⟨hr, hn_this, hfr⟩ := hw
  rw [hr]
  have hp_this := hn_this
  have hF := hF.tr (hfr.wide (by omega) (by omega))
  obtain ⟨q14, hq14, hf⟩ := mm_bd hf
  refine mm_Vi (rest := []) hC hM (c_X13_ends l hq14 hp_this) q7_133 q1_12 ykX13_ends q7_130 q7_132 qp_952383d2 hp_this.1 rfl ⟨rfl, rfl⟩ ⟨Nat.le_of_ble_eq_true rfl, Nat.le_of_ble_eq_true rfl⟩ rfl hl.1 rfl (Nat.le_of_ble_eq_true rfl) dX13_removeBoat_14 ⟨Nat.le_of_ble_eq_true rfl, Nat.le_of_ble_eq_true rfl⟩ (fun r w14 H locs hM hw => ?_)
  obtain ⟨hr, hn_this, hfr⟩ := hw
  rw [hr]
  have hp_this := hn_this
  have hF := hF.tr (hfr.wide (by omega) (by omega))
  cases hf
  exact hret hM dX13_removeBoat_17 rfl ⟨rfl, hp_this, hF⟩
def f_X13_boatCount (v : Nat → Int32) : Option (Int32 × Int32) := (f_X13_tells v 3).bind fun q2 => some (q2.1, q2.2)
set_option maxHeartbeats 4000000 in
set_option maxRecDepth 100000 in
theorem c_X13_boatCount (l : Launch) {G : mm_G} {w : va_W} {sz : Nat} {b : Nat} {thrown : Int32} {changes : Int32} {errorAt : Int32} {failedAt : Int32} {isSaved : Int32} {v : Nat → Int32} {before : Nat → Int32} {saved : Nat → Int32} {past : Nat → Int32} {far : Nat → Int32} {scratch : Nat → Int32} {best : Nat → Int32} {thenX : Int32} {thenY : Int32} {thenMet : Int32} {text : Nat → Int32} {line : Nat → Int32} {isLeft : Nat → Int32} {words : Nat → Int32} {wordAt : Nat → Int32} {textN : Int32} {hereP : Int32} {endP : Int32} {lineN : Int32} {isWrong : Int32} {isDoing : Int32} {X : Int32 × Int32} (hf : f_X13_boatCount v = some X) (hp_this : At13 G w b thrown changes errorAt failedAt isSaved v before saved past far scratch best thenX thenY thenMet text line isLeft words wordAt textN hereP endP lineN isWrong isDoing) : Met l yX13_boatCount (Cond.code yX13_boatCount cX13_boatCount 1 (some .int) :: gAll) ({ frames := 1, cells := 0, slots := 0, locals := 21 }) (va_Pc [.ref b] (mm_Pre G w sz)) (mm_Qi G w sz (fun r w' => r = X.1 ∧ At13 G w' b X.2 changes errorAt failedAt isSaved v before saved past far scratch best thenX thenY thenMet text line isLeft words wordAt textN hereP endP lineN isWrong isDoing ∧ mm_fr w w' b (b + 13))) 0 0 (va_A w sz) := by
  refine mm_headI [.ref b] (by decide +kernel) rfl (Nat.le_of_ble_eq_true rfl) ?_
  intro p e s m args below meth c A Q hsz hC hM hret ls hl
  have hx := hC.1.1
  have hb := hC.1.2.1
  have hl : lv_has ls 1 [(0, .ref b)] := hl
  have hF : mm_fr w w b (b + 13) := mm_fr.rf
  rw [f_X13_boatCount] at hf
  refine lv_aload_n hx hb dX13_boatCount_0 rfl (lv_at hl 0 rfl) ?_
  refine lv_iconst (v := 3) hx hb dX13_boatCount_1 (by decide) ?_
  obtain ⟨q2, hq2, hf⟩ := mm_bd hf
  refine mm_Vi (rest := []) hC hM (c_X13_tells l hq2 hp_this) q7_177 q1_12 ykX13_tells q7_174 q7_176 qp_3beb7552 hp_this.1 rfl ⟨rfl, rfl⟩ ⟨Nat.le_of_ble_eq_true rfl, Nat.le_of_ble_eq_true rfl⟩ rfl hl.1 rfl (Nat.le_of_ble_eq_true rfl) dX13_boatCount_2 ⟨Nat.le_of_ble_eq_true rfl, Nat.le_of_ble_eq_true rfl⟩ (fun r w2 H locs hM hw => ?_)
  obtain ⟨hr, hn_this, hfr⟩ := hw
  rw [hr]
  have hp_this := hn_this
  have hF := hF.tr (hfr.wide (by omega) (by omega))
  cases hf
  exact hret hM dX13_boatCount_5 rfl ⟨rfl, hp_this, hF⟩
def f_X13_boatAt (v : Nat → Int32) (x1 : Int32) : Option (Int32 × Int32) := (f_X13_isIn x1 0 ((v 3) - 1)).bind fun q11 => if q11 = 0 then some (0, 1) else (f_X13_of x1 0).bind fun q38 => mm_g (mm_ck q38 238) (some ((v q38.toNatClampNeg), 0))
set_option maxHeartbeats 4000000 in
set_option maxRecDepth 100000 in
theorem c_X13_boatAt (l : Launch) {G : mm_G} {w : va_W} {sz : Nat} {b : Nat} {thrown : Int32} {changes : Int32} {errorAt : Int32} {failedAt : Int32} {isSaved : Int32} {v : Nat → Int32} {before : Nat → Int32} {saved : Nat → Int32} {past : Nat → Int32} {far : Nat → Int32} {scratch : Nat → Int32} {best : Nat → Int32} {thenX : Int32} {thenY : Int32} {thenMet : Int32} {text : Nat → Int32} {line : Nat → Int32} {isLeft : Nat → Int32} {words : Nat → Int32} {wordAt : Nat → Int32} {textN : Int32} {hereP : Int32} {endP : Int32} {lineN : Int32} {isWrong : Int32} {isDoing : Int32} {x1 : Int32} {X : Int32 × Int32} (hf : f_X13_boatAt v x1 = some X) (hp_this : At13 G w b thrown changes errorAt failedAt isSaved v before saved past far scratch best thenX thenY thenMet text line isLeft words wordAt textN hereP endP lineN isWrong isDoing) : Met l yX13_boatAt (Cond.code yX13_boatAt cX13_boatAt 2 (some .int) :: gAll) ({ frames := 1, cells := 0, slots := 0, locals := 22 }) (va_Pc [.ref b, .int x1] (mm_Pre G w sz)) (mm_Qi G w sz (fun r w' => r = X.1 ∧ At13 G w' b X.2 changes errorAt failedAt isSaved v before saved past far scratch best thenX thenY thenMet text line isLeft words wordAt textN hereP endP lineN isWrong isDoing ∧ mm_fr w w' b (b + 13))) 0 0 (va_A w sz) := by
  refine mm_headI [.ref b, .int x1] (by decide +kernel) rfl (Nat.le_of_ble_eq_true rfl) ?_
  intro p e s m args below meth c A Q hsz hC hM hret ls hl
  have hx := hC.1.1
  have hb := hC.1.2.1
  have hl : lv_has ls 2 [(0, .ref b), (1, .int x1)] := hl
  have hF : mm_fr w w b (b + 13) := mm_fr.rf
  rw [f_X13_boatAt] at hf
  refine lv_aload_n hx hb dX13_boatAt_0 rfl (lv_at hl 0 rfl) ?_
  refine lv_iload_n hx hb dX13_boatAt_1 rfl (lv_at hl 1 rfl) ?_
  refine lv_iconst (v := 0) hx hb dX13_boatAt_2 (by decide) ?_
  refine lv_aload_n hx hb dX13_boatAt_3 rfl (lv_at hl 0 rfl) ?_
  refine mm_get hC hM (k := 5) hp_this.1 rfl inAX13 (by decide) q7_10 rfl dX13_boatAt_4 ?_
  refine lv_iconst (v := 3) hx hb dX13_boatAt_7 (by decide) ?_
  refine mm_ialdN (N := 3) hC hM (hp_this.2.1) (by decide) (by unfold vp_in; decide) dX13_boatAt_8 ?_
  refine lv_iconst (v := 1) hx hb dX13_boatAt_9 (by decide) ?_
  refine lv_isub hx hb dX13_boatAt_10 ?_
  obtain ⟨q11, hq11, hf⟩ := mm_bd hf
  refine mm_Si (rest := [.ref b]) hC hM (c_X13_isIn l hq11) q7_108 q1_12 ykX13_isIn q7_106 q7_107 ⟨rfl, rfl⟩ ⟨Nat.le_of_ble_eq_true rfl, Nat.le_of_ble_eq_true rfl⟩ rfl hl.1 rfl (Nat.le_of_ble_eq_true rfl) dX13_boatAt_11 ⟨Nat.le_of_ble_eq_true rfl, Nat.le_of_ble_eq_true rfl⟩ (fun r w11 H locs hM hw => ?_)
  obtain ⟨hr, hw⟩ := hw
  rw [hr]
  rw [hw] at hM
  refine lv_if_eq (tgt := 21) hx hb dX13_boatAt_14 (by decide) (fun hcd => ?_) (fun hcd => ?_)
  · rw [if_pos hcd] at hf
    refine lv_iconst (v := 1) hx hb dX13_boatAt_21 (by decide) ?_
    refine mm_put hC hM (k := 0) tyX13 hp_this.1 rfl inAX13 tyX13_ok nmX13 (by decide) q7_5 rfl rfl rfl rfl (Nat.le_of_ble_eq_true rfl) dX13_boatAt_22 (fun w22 H locs hM hm => ?_)
    have hp_this : At13 G w22 b 1 changes errorAt failedAt isSaved v before saved past far scratch best thenX thenY thenMet text line isLeft words wordAt textN hereP endP lineN isWrong isDoing := ⟨hm.1, hm.keep (hp_this.2.1) (by omega), hm.keep (hp_this.2.2.1) (by omega), hm.keep (hp_this.2.2.2.1) (by omega), hm.keep (hp_this.2.2.2.2.1) (by omega), hm.keep (hp_this.2.2.2.2.2.1) (by omega), hm.keep (hp_this.2.2.2.2.2.2.1) (by omega), hm.keep (hp_this.2.2.2.2.2.2.2.1) (by omega), hm.keep (hp_this.2.2.2.2.2.2.2.2.1) (by omega), hm.keep (hp_this.2.2.2.2.2.2.2.2.2.1) (by omega), hm.keep (hp_this.2.2.2.2.2.2.2.2.2.2.1) (by omega), hm.keep (hp_this.2.2.2.2.2.2.2.2.2.2.2.1) (by omega), hm.keep (hp_this.2.2.2.2.2.2.2.2.2.2.2.2) (by omega)⟩
    have hF := hF.tr (hm.fr (by omega) (by omega))
    refine lv_aload_n hx hb dX13_boatAt_25 rfl (lv_at hl 0 rfl) ?_
    refine mm_get hC hM (k := 0) hp_this.1 rfl inAX13 (by decide) q7_5 rfl dX13_boatAt_26 ?_
    refine lv_if_ne (tgt := 45) hx hb dX13_boatAt_29 (by decide) (fun _ => ?_) (fun c => absurd c (by decide))
    refine lv_iconst (v := 0) hx hb dX13_boatAt_45 (by decide) ?_
    cases hf
    exact hret hM dX13_boatAt_46 rfl ⟨rfl, hp_this, hF⟩
  · rw [if_neg hcd] at hf
    refine lv_iconst (v := 0) hx hb dX13_boatAt_17 (by decide) ?_
    refine lv_goto (tgt := 22) hx hb dX13_boatAt_18 (by decide) ?_
    refine mm_put hC hM (k := 0) tyX13 hp_this.1 rfl inAX13 tyX13_ok nmX13 (by decide) q7_5 rfl rfl rfl rfl (Nat.le_of_ble_eq_true rfl) dX13_boatAt_22 (fun w22 H locs hM hm => ?_)
    have hp_this : At13 G w22 b 0 changes errorAt failedAt isSaved v before saved past far scratch best thenX thenY thenMet text line isLeft words wordAt textN hereP endP lineN isWrong isDoing := ⟨hm.1, hm.keep (hp_this.2.1) (by omega), hm.keep (hp_this.2.2.1) (by omega), hm.keep (hp_this.2.2.2.1) (by omega), hm.keep (hp_this.2.2.2.2.1) (by omega), hm.keep (hp_this.2.2.2.2.2.1) (by omega), hm.keep (hp_this.2.2.2.2.2.2.1) (by omega), hm.keep (hp_this.2.2.2.2.2.2.2.1) (by omega), hm.keep (hp_this.2.2.2.2.2.2.2.2.1) (by omega), hm.keep (hp_this.2.2.2.2.2.2.2.2.2.1) (by omega), hm.keep (hp_this.2.2.2.2.2.2.2.2.2.2.1) (by omega), hm.keep (hp_this.2.2.2.2.2.2.2.2.2.2.2.1) (by omega), hm.keep (hp_this.2.2.2.2.2.2.2.2.2.2.2.2) (by omega)⟩
    have hF := hF.tr (hm.fr (by omega) (by omega))
    refine lv_aload_n hx hb dX13_boatAt_25 rfl (lv_at hl 0 rfl) ?_
    refine mm_get hC hM (k := 0) hp_this.1 rfl inAX13 (by decide) q7_5 rfl dX13_boatAt_26 ?_
    refine lv_if_ne (tgt := 45) hx hb dX13_boatAt_29 (by decide) (fun c => absurd (by decide) c) (fun _ => ?_)
    refine lv_aload_n hx hb dX13_boatAt_32 rfl (lv_at hl 0 rfl) ?_
    refine mm_get hC hM (k := 5) hp_this.1 rfl inAX13 (by decide) q7_10 rfl dX13_boatAt_33 ?_
    refine lv_iload_n hx hb dX13_boatAt_36 rfl (lv_at hl 1 rfl) ?_
    refine lv_iconst (v := 0) hx hb dX13_boatAt_37 (by decide) ?_
    obtain ⟨q38, hq38, hf⟩ := mm_bd hf
    refine mm_Si (rest := [.ref (b + 1)]) hC hM (c_X13_of l hq38) q7_126 q1_12 ykX13_of q7_124 q7_125 ⟨rfl, rfl⟩ ⟨Nat.le_of_ble_eq_true rfl, Nat.le_of_ble_eq_true rfl⟩ rfl hl.1 rfl (Nat.le_of_ble_eq_true rfl) dX13_boatAt_38 ⟨Nat.le_of_ble_eq_true rfl, Nat.le_of_ble_eq_true rfl⟩ (fun r w38 H locs hM hw => ?_)
    obtain ⟨hr, hw⟩ := hw
    rw [hr]
    rw [hw] at hM
    obtain ⟨hg41, hf⟩ := mm_gd hf
    refine mm_iald hC hM (hp_this.2.1) hg41 dX13_boatAt_41 ?_
    refine lv_goto (tgt := 46) hx hb dX13_boatAt_42 (by decide) ?_
    cases hf
    exact hret hM dX13_boatAt_46 rfl ⟨rfl, hp_this, hF⟩
def f_X13_tellsOf (K : Nat) (v : Nat → Int32) (x1 : Int32) (x2 : Int32) : Option (Int32 × Int32) := (f_X13_find K v x1).bind fun q3 => if 0 ≤ q3 then (f_X13_find K v x1).bind fun q30 => (f_X13_of q30 x2).bind fun q34 => mm_g (mm_ck q34 238) (some ((v q34.toNatClampNeg), 0)) else some (0, 1)
set_option maxHeartbeats 4000000 in
set_option maxRecDepth 100000 in
theorem c_X13_tellsOf (l : Launch) {G : mm_G} {K : Nat} {w : va_W} {sz : Nat} {b : Nat} {thrown : Int32} {changes : Int32} {errorAt : Int32} {failedAt : Int32} {isSaved : Int32} {v : Nat → Int32} {before : Nat → Int32} {saved : Nat → Int32} {past : Nat → Int32} {far : Nat → Int32} {scratch : Nat → Int32} {best : Nat → Int32} {thenX : Int32} {thenY : Int32} {thenMet : Int32} {text : Nat → Int32} {line : Nat → Int32} {isLeft : Nat → Int32} {words : Nat → Int32} {wordAt : Nat → Int32} {textN : Int32} {hereP : Int32} {endP : Int32} {lineN : Int32} {isWrong : Int32} {isDoing : Int32} {x1 : Int32} {x2 : Int32} {X : Int32 × Int32} (hf : f_X13_tellsOf K v x1 x2 = some X) (hp_this : At13 G w b thrown changes errorAt failedAt isSaved v before saved past far scratch best thenX thenY thenMet text line isLeft words wordAt textN hereP endP lineN isWrong isDoing) : Met l yX13_tellsOf (Cond.code yX13_tellsOf cX13_tellsOf 3 (some .int) :: gAll) ({ frames := 2, cells := 0, slots := 0, locals := 43 }) (va_Pc [.ref b, .int x1, .int x2] (mm_Pre G w sz)) (mm_Qi G w sz (fun r w' => r = X.1 ∧ At13 G w' b X.2 changes errorAt failedAt isSaved v before saved past far scratch best thenX thenY thenMet text line isLeft words wordAt textN hereP endP lineN isWrong isDoing ∧ mm_fr w w' b (b + 13))) 0 0 (va_A w sz) := by
  refine mm_headI [.ref b, .int x1, .int x2] (by decide +kernel) rfl (Nat.le_of_ble_eq_true rfl) ?_
  intro p e s m args below meth c A Q hsz hC hM hret ls hl
  have hx := hC.1.1
  have hb := hC.1.2.1
  have hl : lv_has ls 3 [(0, .ref b), (1, .int x1), (2, .int x2)] := hl
  have hF : mm_fr w w b (b + 13) := mm_fr.rf
  rw [f_X13_tellsOf] at hf
  refine lv_aload_n hx hb dX13_tellsOf_0 rfl (lv_at hl 0 rfl) ?_
  refine lv_aload_n hx hb dX13_tellsOf_1 rfl (lv_at hl 0 rfl) ?_
  refine lv_iload_n hx hb dX13_tellsOf_2 rfl (lv_at hl 1 rfl) ?_
  obtain ⟨q3, hq3, hf⟩ := mm_bd hf
  refine mm_Vi (rest := [.ref b]) hC hM (c_X13_find l hq3 hp_this) q7_218 q1_12 ykX13_find q7_215 q7_217 qp_0f7fdc43 hp_this.1 rfl ⟨rfl, rfl⟩ ⟨Nat.le_of_ble_eq_true rfl, Nat.le_of_ble_eq_true rfl⟩ rfl hl.1 rfl (Nat.le_of_ble_eq_true rfl) dX13_tellsOf_3 ⟨Nat.le_of_ble_eq_true rfl, Nat.le_of_ble_eq_true rfl⟩ (fun r w3 H locs hM hw => ?_)
  obtain ⟨hr, hw⟩ := hw
  rw [hr]
  rw [hw] at hM
  refine lv_if_ge (tgt := 13) hx hb dX13_tellsOf_6 (by decide) (fun hcd => ?_) (fun hcd => ?_)
  · rw [if_pos hcd] at hf
    refine lv_iconst (v := 0) hx hb dX13_tellsOf_13 (by decide) ?_
    refine mm_put hC hM (k := 0) tyX13 hp_this.1 rfl inAX13 tyX13_ok nmX13 (by decide) q7_5 rfl rfl rfl rfl (Nat.le_of_ble_eq_true rfl) dX13_tellsOf_14 (fun w14 H locs hM hm => ?_)
    have hp_this : At13 G w14 b 0 changes errorAt failedAt isSaved v before saved past far scratch best thenX thenY thenMet text line isLeft words wordAt textN hereP endP lineN isWrong isDoing := ⟨hm.1, hm.keep (hp_this.2.1) (by omega), hm.keep (hp_this.2.2.1) (by omega), hm.keep (hp_this.2.2.2.1) (by omega), hm.keep (hp_this.2.2.2.2.1) (by omega), hm.keep (hp_this.2.2.2.2.2.1) (by omega), hm.keep (hp_this.2.2.2.2.2.2.1) (by omega), hm.keep (hp_this.2.2.2.2.2.2.2.1) (by omega), hm.keep (hp_this.2.2.2.2.2.2.2.2.1) (by omega), hm.keep (hp_this.2.2.2.2.2.2.2.2.2.1) (by omega), hm.keep (hp_this.2.2.2.2.2.2.2.2.2.2.1) (by omega), hm.keep (hp_this.2.2.2.2.2.2.2.2.2.2.2.1) (by omega), hm.keep (hp_this.2.2.2.2.2.2.2.2.2.2.2.2) (by omega)⟩
    have hF := hF.tr (hm.fr (by omega) (by omega))
    refine lv_aload_n hx hb dX13_tellsOf_17 rfl (lv_at hl 0 rfl) ?_
    refine mm_get hC hM (k := 0) hp_this.1 rfl inAX13 (by decide) q7_5 rfl dX13_tellsOf_18 ?_
    refine lv_if_ne (tgt := 41) hx hb dX13_tellsOf_21 (by decide) (fun c => absurd (by decide) c) (fun _ => ?_)
    refine lv_aload_n hx hb dX13_tellsOf_24 rfl (lv_at hl 0 rfl) ?_
    refine mm_get hC hM (k := 5) hp_this.1 rfl inAX13 (by decide) q7_10 rfl dX13_tellsOf_25 ?_
    refine lv_aload_n hx hb dX13_tellsOf_28 rfl (lv_at hl 0 rfl) ?_
    refine lv_iload_n hx hb dX13_tellsOf_29 rfl (lv_at hl 1 rfl) ?_
    obtain ⟨q30, hq30, hf⟩ := mm_bd hf
    refine mm_Vi (rest := [.ref (b + 1)]) hC hM (c_X13_find l hq30 hp_this) q7_218 q1_12 ykX13_find q7_215 q7_217 qp_0f7fdc43 hp_this.1 rfl ⟨rfl, rfl⟩ ⟨Nat.le_of_ble_eq_true rfl, Nat.le_of_ble_eq_true rfl⟩ rfl hl.1 rfl (Nat.le_of_ble_eq_true rfl) dX13_tellsOf_30 ⟨Nat.le_of_ble_eq_true rfl, Nat.le_of_ble_eq_true rfl⟩ (fun r w30 H locs hM hw => ?_)
    obtain ⟨hr, hw⟩ := hw
    rw [hr]
    rw [hw] at hM
    refine lv_iload_n hx hb dX13_tellsOf_33 rfl (lv_at hl 2 rfl) ?_
    obtain ⟨q34, hq34, hf⟩ := mm_bd hf
    refine mm_Si (rest := [.ref (b + 1)]) hC hM (c_X13_of l hq34) q7_126 q1_12 ykX13_of q7_124 q7_125 ⟨rfl, rfl⟩ ⟨Nat.le_of_ble_eq_true rfl, Nat.le_of_ble_eq_true rfl⟩ rfl hl.1 rfl (Nat.le_of_ble_eq_true rfl) dX13_tellsOf_34 ⟨Nat.le_of_ble_eq_true rfl, Nat.le_of_ble_eq_true rfl⟩ (fun r w34 H locs hM hw => ?_)
    obtain ⟨hr, hw⟩ := hw
    rw [hr]
    rw [hw] at hM
    obtain ⟨hg37, hf⟩ := mm_gd hf
    refine mm_iald hC hM (hp_this.2.1) hg37 dX13_tellsOf_37 ?_
    refine lv_goto (tgt := 42) hx hb dX13_tellsOf_38 (by decide) ?_
    cases hf
    exact hret hM dX13_tellsOf_42 rfl ⟨rfl, hp_this, hF⟩
  · rw [if_neg hcd] at hf
    refine lv_iconst (v := 1) hx hb dX13_tellsOf_9 (by decide) ?_
    refine lv_goto (tgt := 14) hx hb dX13_tellsOf_10 (by decide) ?_
    refine mm_put hC hM (k := 0) tyX13 hp_this.1 rfl inAX13 tyX13_ok nmX13 (by decide) q7_5 rfl rfl rfl rfl (Nat.le_of_ble_eq_true rfl) dX13_tellsOf_14 (fun w14 H locs hM hm => ?_)
    have hp_this : At13 G w14 b 1 changes errorAt failedAt isSaved v before saved past far scratch best thenX thenY thenMet text line isLeft words wordAt textN hereP endP lineN isWrong isDoing := ⟨hm.1, hm.keep (hp_this.2.1) (by omega), hm.keep (hp_this.2.2.1) (by omega), hm.keep (hp_this.2.2.2.1) (by omega), hm.keep (hp_this.2.2.2.2.1) (by omega), hm.keep (hp_this.2.2.2.2.2.1) (by omega), hm.keep (hp_this.2.2.2.2.2.2.1) (by omega), hm.keep (hp_this.2.2.2.2.2.2.2.1) (by omega), hm.keep (hp_this.2.2.2.2.2.2.2.2.1) (by omega), hm.keep (hp_this.2.2.2.2.2.2.2.2.2.1) (by omega), hm.keep (hp_this.2.2.2.2.2.2.2.2.2.2.1) (by omega), hm.keep (hp_this.2.2.2.2.2.2.2.2.2.2.2.1) (by omega), hm.keep (hp_this.2.2.2.2.2.2.2.2.2.2.2.2) (by omega)⟩
    have hF := hF.tr (hm.fr (by omega) (by omega))
    refine lv_aload_n hx hb dX13_tellsOf_17 rfl (lv_at hl 0 rfl) ?_
    refine mm_get hC hM (k := 0) hp_this.1 rfl inAX13 (by decide) q7_5 rfl dX13_tellsOf_18 ?_
    refine lv_if_ne (tgt := 41) hx hb dX13_tellsOf_21 (by decide) (fun _ => ?_) (fun c => absurd c (by decide))
    refine lv_iconst (v := 0) hx hb dX13_tellsOf_41 (by decide) ?_
    cases hf
    exact hret hM dX13_tellsOf_42 rfl ⟨rfl, hp_this, hF⟩
def f_X13_columnOf (K : Nat) (v : Nat → Int32) (x1 : Int32) : Option (Int32 × Int32) := (f_X13_tellsOf K v x1 1).bind fun q3 => some (q3.1, q3.2)
set_option maxHeartbeats 4000000 in
set_option maxRecDepth 100000 in
theorem c_X13_columnOf (l : Launch) {G : mm_G} {K : Nat} {w : va_W} {sz : Nat} {b : Nat} {thrown : Int32} {changes : Int32} {errorAt : Int32} {failedAt : Int32} {isSaved : Int32} {v : Nat → Int32} {before : Nat → Int32} {saved : Nat → Int32} {past : Nat → Int32} {far : Nat → Int32} {scratch : Nat → Int32} {best : Nat → Int32} {thenX : Int32} {thenY : Int32} {thenMet : Int32} {text : Nat → Int32} {line : Nat → Int32} {isLeft : Nat → Int32} {words : Nat → Int32} {wordAt : Nat → Int32} {textN : Int32} {hereP : Int32} {endP : Int32} {lineN : Int32} {isWrong : Int32} {isDoing : Int32} {x1 : Int32} {X : Int32 × Int32} (hf : f_X13_columnOf K v x1 = some X) (hp_this : At13 G w b thrown changes errorAt failedAt isSaved v before saved past far scratch best thenX thenY thenMet text line isLeft words wordAt textN hereP endP lineN isWrong isDoing) : Met l yX13_columnOf (Cond.code yX13_columnOf cX13_columnOf 2 (some .int) :: gAll) ({ frames := 3, cells := 0, slots := 0, locals := 65 }) (va_Pc [.ref b, .int x1] (mm_Pre G w sz)) (mm_Qi G w sz (fun r w' => r = X.1 ∧ At13 G w' b X.2 changes errorAt failedAt isSaved v before saved past far scratch best thenX thenY thenMet text line isLeft words wordAt textN hereP endP lineN isWrong isDoing ∧ mm_fr w w' b (b + 13))) 0 0 (va_A w sz) := by
  refine mm_headI [.ref b, .int x1] (by decide +kernel) rfl (Nat.le_of_ble_eq_true rfl) ?_
  intro p e s m args below meth c A Q hsz hC hM hret ls hl
  have hx := hC.1.1
  have hb := hC.1.2.1
  have hl : lv_has ls 2 [(0, .ref b), (1, .int x1)] := hl
  have hF : mm_fr w w b (b + 13) := mm_fr.rf
  rw [f_X13_columnOf] at hf
  refine lv_aload_n hx hb dX13_columnOf_0 rfl (lv_at hl 0 rfl) ?_
  refine lv_iload_n hx hb dX13_columnOf_1 rfl (lv_at hl 1 rfl) ?_
  refine lv_iconst (v := 1) hx hb dX13_columnOf_2 (by decide) ?_
  obtain ⟨q3, hq3, hf⟩ := mm_bd hf
  refine mm_Vi (rest := []) hC hM (c_X13_tellsOf l hq3 hp_this) q7_238 q1_12 ykX13_tellsOf q7_235 q7_237 qp_b3d59324 hp_this.1 rfl ⟨rfl, rfl⟩ ⟨Nat.le_of_ble_eq_true rfl, Nat.le_of_ble_eq_true rfl⟩ rfl hl.1 rfl (Nat.le_of_ble_eq_true rfl) dX13_columnOf_3 ⟨Nat.le_of_ble_eq_true rfl, Nat.le_of_ble_eq_true rfl⟩ (fun r w3 H locs hM hw => ?_)
  obtain ⟨hr, hn_this, hfr⟩ := hw
  rw [hr]
  have hp_this := hn_this
  have hF := hF.tr (hfr.wide (by omega) (by omega))
  cases hf
  exact hret hM dX13_columnOf_6 rfl ⟨rfl, hp_this, hF⟩
def f_X13_rowOf (K : Nat) (v : Nat → Int32) (x1 : Int32) : Option (Int32 × Int32) := (f_X13_tellsOf K v x1 2).bind fun q3 => some (q3.1, q3.2)
set_option maxHeartbeats 4000000 in
set_option maxRecDepth 100000 in
theorem c_X13_rowOf (l : Launch) {G : mm_G} {K : Nat} {w : va_W} {sz : Nat} {b : Nat} {thrown : Int32} {changes : Int32} {errorAt : Int32} {failedAt : Int32} {isSaved : Int32} {v : Nat → Int32} {before : Nat → Int32} {saved : Nat → Int32} {past : Nat → Int32} {far : Nat → Int32} {scratch : Nat → Int32} {best : Nat → Int32} {thenX : Int32} {thenY : Int32} {thenMet : Int32} {text : Nat → Int32} {line : Nat → Int32} {isLeft : Nat → Int32} {words : Nat → Int32} {wordAt : Nat → Int32} {textN : Int32} {hereP : Int32} {endP : Int32} {lineN : Int32} {isWrong : Int32} {isDoing : Int32} {x1 : Int32} {X : Int32 × Int32} (hf : f_X13_rowOf K v x1 = some X) (hp_this : At13 G w b thrown changes errorAt failedAt isSaved v before saved past far scratch best thenX thenY thenMet text line isLeft words wordAt textN hereP endP lineN isWrong isDoing) : Met l yX13_rowOf (Cond.code yX13_rowOf cX13_rowOf 2 (some .int) :: gAll) ({ frames := 3, cells := 0, slots := 0, locals := 65 }) (va_Pc [.ref b, .int x1] (mm_Pre G w sz)) (mm_Qi G w sz (fun r w' => r = X.1 ∧ At13 G w' b X.2 changes errorAt failedAt isSaved v before saved past far scratch best thenX thenY thenMet text line isLeft words wordAt textN hereP endP lineN isWrong isDoing ∧ mm_fr w w' b (b + 13))) 0 0 (va_A w sz) := by
  refine mm_headI [.ref b, .int x1] (by decide +kernel) rfl (Nat.le_of_ble_eq_true rfl) ?_
  intro p e s m args below meth c A Q hsz hC hM hret ls hl
  have hx := hC.1.1
  have hb := hC.1.2.1
  have hl : lv_has ls 2 [(0, .ref b), (1, .int x1)] := hl
  have hF : mm_fr w w b (b + 13) := mm_fr.rf
  rw [f_X13_rowOf] at hf
  refine lv_aload_n hx hb dX13_rowOf_0 rfl (lv_at hl 0 rfl) ?_
  refine lv_iload_n hx hb dX13_rowOf_1 rfl (lv_at hl 1 rfl) ?_
  refine lv_iconst (v := 2) hx hb dX13_rowOf_2 (by decide) ?_
  obtain ⟨q3, hq3, hf⟩ := mm_bd hf
  refine mm_Vi (rest := []) hC hM (c_X13_tellsOf l hq3 hp_this) q7_238 q1_12 ykX13_tellsOf q7_235 q7_237 qp_b3d59324 hp_this.1 rfl ⟨rfl, rfl⟩ ⟨Nat.le_of_ble_eq_true rfl, Nat.le_of_ble_eq_true rfl⟩ rfl hl.1 rfl (Nat.le_of_ble_eq_true rfl) dX13_rowOf_3 ⟨Nat.le_of_ble_eq_true rfl, Nat.le_of_ble_eq_true rfl⟩ (fun r w3 H locs hM hw => ?_)
  obtain ⟨hr, hn_this, hfr⟩ := hw
  rw [hr]
  have hp_this := hn_this
  have hF := hF.tr (hfr.wide (by omega) (by omega))
  cases hf
  exact hret hM dX13_rowOf_6 rfl ⟨rfl, hp_this, hF⟩
def f_X13_imageColumnOf (K : Nat) (v : Nat → Int32) (x1 : Int32) : Option (Int32 × Int32) := (f_X13_tellsOf K v x1 1).bind fun q3 => if q3.2 = 0 then some ((8 - q3.1), q3.2) else some (0, q3.2)
set_option maxHeartbeats 4000000 in
set_option maxRecDepth 100000 in
theorem c_X13_imageColumnOf (l : Launch) {G : mm_G} {K : Nat} {w : va_W} {sz : Nat} {b : Nat} {thrown : Int32} {changes : Int32} {errorAt : Int32} {failedAt : Int32} {isSaved : Int32} {v : Nat → Int32} {before : Nat → Int32} {saved : Nat → Int32} {past : Nat → Int32} {far : Nat → Int32} {scratch : Nat → Int32} {best : Nat → Int32} {thenX : Int32} {thenY : Int32} {thenMet : Int32} {text : Nat → Int32} {line : Nat → Int32} {isLeft : Nat → Int32} {words : Nat → Int32} {wordAt : Nat → Int32} {textN : Int32} {hereP : Int32} {endP : Int32} {lineN : Int32} {isWrong : Int32} {isDoing : Int32} {x1 : Int32} {X : Int32 × Int32} (hf : f_X13_imageColumnOf K v x1 = some X) (hp_this : At13 G w b thrown changes errorAt failedAt isSaved v before saved past far scratch best thenX thenY thenMet text line isLeft words wordAt textN hereP endP lineN isWrong isDoing) : Met l yX13_imageColumnOf (Cond.code yX13_imageColumnOf cX13_imageColumnOf 3 (some .int) :: gAll) ({ frames := 3, cells := 0, slots := 0, locals := 65 }) (va_Pc [.ref b, .int x1] (mm_Pre G w sz)) (mm_Qi G w sz (fun r w' => r = X.1 ∧ At13 G w' b X.2 changes errorAt failedAt isSaved v before saved past far scratch best thenX thenY thenMet text line isLeft words wordAt textN hereP endP lineN isWrong isDoing ∧ mm_fr w w' b (b + 13))) 0 0 (va_A w sz) := by
  refine mm_headI [.ref b, .int x1] (by decide +kernel) rfl (Nat.le_of_ble_eq_true rfl) ?_
  intro p e s m args below meth c A Q hsz hC hM hret ls hl
  have hx := hC.1.1
  have hb := hC.1.2.1
  have hl : lv_has ls 3 [(0, .ref b), (1, .int x1)] := hl
  have hF : mm_fr w w b (b + 13) := mm_fr.rf
  rw [f_X13_imageColumnOf] at hf
  refine lv_aload_n hx hb dX13_imageColumnOf_0 rfl (lv_at hl 0 rfl) ?_
  refine lv_iload_n hx hb dX13_imageColumnOf_1 rfl (lv_at hl 1 rfl) ?_
  refine lv_iconst (v := 1) hx hb dX13_imageColumnOf_2 (by decide) ?_
  obtain ⟨q3, hq3, hf⟩ := mm_bd hf
  refine mm_Vi (rest := []) hC hM (c_X13_tellsOf l hq3 hp_this) q7_238 q1_12 ykX13_tellsOf q7_235 q7_237 qp_b3d59324 hp_this.1 rfl ⟨rfl, rfl⟩ ⟨Nat.le_of_ble_eq_true rfl, Nat.le_of_ble_eq_true rfl⟩ rfl hl.1 rfl (Nat.le_of_ble_eq_true rfl) dX13_imageColumnOf_3 ⟨Nat.le_of_ble_eq_true rfl, Nat.le_of_ble_eq_true rfl⟩ (fun r w3 H locs hM hw => ?_)
  obtain ⟨hr, hn_this, hfr⟩ := hw
  rw [hr]
  have hp_this := hn_this
  have hF := hF.tr (hfr.wide (by omega) (by omega))
  refine lv_istore_n (lv' := [(2, .int q3.1), (0, .ref b), (1, .int x1)]) hx hb dX13_imageColumnOf_6 rfl hl (by decide) rfl (fun ls hl => ?_)
  refine lv_aload_n hx hb dX13_imageColumnOf_7 rfl (lv_at hl 1 rfl) ?_
  refine mm_get hC hM (k := 0) hp_this.1 rfl inAX13 (by decide) q7_5 rfl dX13_imageColumnOf_8 ?_
  refine lv_if_ne (tgt := 21) hx hb dX13_imageColumnOf_11 (by decide) (fun hcd => ?_) (fun hcd => ?_)
  · rw [if_neg hcd] at hf
    refine lv_iconst (v := 0) hx hb dX13_imageColumnOf_21 (by decide) ?_
    cases hf
    exact hret hM dX13_imageColumnOf_22 rfl ⟨rfl, hp_this, hF⟩
  · rw [if_pos hcd] at hf
    refine lv_bipush (v := 8) hx hb dX13_imageColumnOf_14 (by decide) ?_
    refine lv_iload_n hx hb dX13_imageColumnOf_16 rfl (lv_at hl 0 rfl) ?_
    refine lv_isub hx hb dX13_imageColumnOf_17 ?_
    refine lv_goto (tgt := 22) hx hb dX13_imageColumnOf_18 (by decide) ?_
    cases hf
    exact hret hM dX13_imageColumnOf_22 rfl ⟨rfl, hp_this, hF⟩
def f_X13_faresOf (K : Nat) (v : Nat → Int32) (x1 : Int32) : Option (Int32 × Int32) := (f_X13_tellsOf K v x1 3).bind fun q3 => some (q3.1, q3.2)
set_option maxHeartbeats 4000000 in
set_option maxRecDepth 100000 in
theorem c_X13_faresOf (l : Launch) {G : mm_G} {K : Nat} {w : va_W} {sz : Nat} {b : Nat} {thrown : Int32} {changes : Int32} {errorAt : Int32} {failedAt : Int32} {isSaved : Int32} {v : Nat → Int32} {before : Nat → Int32} {saved : Nat → Int32} {past : Nat → Int32} {far : Nat → Int32} {scratch : Nat → Int32} {best : Nat → Int32} {thenX : Int32} {thenY : Int32} {thenMet : Int32} {text : Nat → Int32} {line : Nat → Int32} {isLeft : Nat → Int32} {words : Nat → Int32} {wordAt : Nat → Int32} {textN : Int32} {hereP : Int32} {endP : Int32} {lineN : Int32} {isWrong : Int32} {isDoing : Int32} {x1 : Int32} {X : Int32 × Int32} (hf : f_X13_faresOf K v x1 = some X) (hp_this : At13 G w b thrown changes errorAt failedAt isSaved v before saved past far scratch best thenX thenY thenMet text line isLeft words wordAt textN hereP endP lineN isWrong isDoing) : Met l yX13_faresOf (Cond.code yX13_faresOf cX13_faresOf 2 (some .int) :: gAll) ({ frames := 3, cells := 0, slots := 0, locals := 65 }) (va_Pc [.ref b, .int x1] (mm_Pre G w sz)) (mm_Qi G w sz (fun r w' => r = X.1 ∧ At13 G w' b X.2 changes errorAt failedAt isSaved v before saved past far scratch best thenX thenY thenMet text line isLeft words wordAt textN hereP endP lineN isWrong isDoing ∧ mm_fr w w' b (b + 13))) 0 0 (va_A w sz) := by
  refine mm_headI [.ref b, .int x1] (by decide +kernel) rfl (Nat.le_of_ble_eq_true rfl) ?_
  intro p e s m args below meth c A Q hsz hC hM hret ls hl
  have hx := hC.1.1
  have hb := hC.1.2.1
  have hl : lv_has ls 2 [(0, .ref b), (1, .int x1)] := hl
  have hF : mm_fr w w b (b + 13) := mm_fr.rf
  rw [f_X13_faresOf] at hf
  refine lv_aload_n hx hb dX13_faresOf_0 rfl (lv_at hl 0 rfl) ?_
  refine lv_iload_n hx hb dX13_faresOf_1 rfl (lv_at hl 1 rfl) ?_
  refine lv_iconst (v := 3) hx hb dX13_faresOf_2 (by decide) ?_
  obtain ⟨q3, hq3, hf⟩ := mm_bd hf
  refine mm_Vi (rest := []) hC hM (c_X13_tellsOf l hq3 hp_this) q7_238 q1_12 ykX13_tellsOf q7_235 q7_237 qp_b3d59324 hp_this.1 rfl ⟨rfl, rfl⟩ ⟨Nat.le_of_ble_eq_true rfl, Nat.le_of_ble_eq_true rfl⟩ rfl hl.1 rfl (Nat.le_of_ble_eq_true rfl) dX13_faresOf_3 ⟨Nat.le_of_ble_eq_true rfl, Nat.le_of_ble_eq_true rfl⟩ (fun r w3 H locs hM hw => ?_)
  obtain ⟨hr, hn_this, hfr⟩ := hw
  rw [hr]
  have hp_this := hn_this
  have hF := hF.tr (hfr.wide (by omega) (by omega))
  cases hf
  exact hret hM dX13_faresOf_6 rfl ⟨rfl, hp_this, hF⟩
def f_X13_boatAtRank_L22 (v : Nat → Int32) (x2 : Int32) : Nat → (Int32) → (Int32) → Option (Int32)
  | 0, _, _ => none
  | n + 1, x3, x4 => if (v 3) ≤ x4 then some x3 else (f_X13_of x4 3).bind fun q41 => mm_g (mm_ck q41 238) ((f_X13_of x2 3).bind fun q51 => mm_g (mm_ck q51 238) (if (v q51.toNatClampNeg) < (v q41.toNatClampNeg) then f_X13_boatAtRank_L22 v x2 n (x3 + 1) (x4 + 1) else (f_X13_of x4 3).bind fun q65 => mm_g (mm_ck q65 238) ((f_X13_of x2 3).bind fun q75 => mm_g (mm_ck q75 238) (if (v q65.toNatClampNeg) = (v q75.toNatClampNeg) then if x2 ≤ x4 then f_X13_boatAtRank_L22 v x2 n (x3 + 0) (x4 + 1) else f_X13_boatAtRank_L22 v x2 n (x3 + 1) (x4 + 1) else f_X13_boatAtRank_L22 v x2 n (x3 + 0) (x4 + 1)))))
def f_X13_boatAtRank_L7 (K : Nat) (thrown : Int32) (v : Nat → Int32) (x1 : Int32) : Nat → (Int32) → Option (Int32 × Int32)
  | 0, _ => none
  | n + 1, x2 => if (v 3) ≤ x2 then (f_X13_fail 1).bind fun q125 => some (q125.1, q125.2) else (f_X13_boatAtRank_L22 v x2 K 0 0).bind fun q22 => if q22 = x1 then (f_X13_of x2 0).bind fun q112 => mm_g (mm_ck q112 238) (some ((v q112.toNatClampNeg), thrown)) else f_X13_boatAtRank_L7 K thrown v x1 n (x2 + 1)
def f_X13_boatAtRank (K : Nat) (v : Nat → Int32) (x1 : Int32) : Option (Int32 × Int32) := f_X13_boatAtRank_L7 K 0 v x1 K 0
set_option maxHeartbeats 4000000 in
set_option maxRecDepth 100000 in
theorem c_X13_boatAtRank (l : Launch) {G : mm_G} {K : Nat} {w : va_W} {sz : Nat} {b : Nat} {thrown : Int32} {changes : Int32} {errorAt : Int32} {failedAt : Int32} {isSaved : Int32} {v : Nat → Int32} {before : Nat → Int32} {saved : Nat → Int32} {past : Nat → Int32} {far : Nat → Int32} {scratch : Nat → Int32} {best : Nat → Int32} {thenX : Int32} {thenY : Int32} {thenMet : Int32} {text : Nat → Int32} {line : Nat → Int32} {isLeft : Nat → Int32} {words : Nat → Int32} {wordAt : Nat → Int32} {textN : Int32} {hereP : Int32} {endP : Int32} {lineN : Int32} {isWrong : Int32} {isDoing : Int32} {x1 : Int32} {X : Int32 × Int32} (hf : f_X13_boatAtRank K v x1 = some X) (hp_this : At13 G w b thrown changes errorAt failedAt isSaved v before saved past far scratch best thenX thenY thenMet text line isLeft words wordAt textN hereP endP lineN isWrong isDoing) : Met l yX13_boatAtRank (Cond.code yX13_boatAtRank cX13_boatAtRank 5 (some .int) :: gAll) ({ frames := 1, cells := 0, slots := 0, locals := 21 }) (va_Pc [.ref b, .int x1] (mm_Pre G w sz)) (mm_Qi G w sz (fun r w' => r = X.1 ∧ At13 G w' b X.2 changes errorAt failedAt isSaved v before saved past far scratch best thenX thenY thenMet text line isLeft words wordAt textN hereP endP lineN isWrong isDoing ∧ mm_fr w w' b (b + 13))) 0 0 (va_A w sz) := by
  refine mm_headI [.ref b, .int x1] (by decide +kernel) rfl (Nat.le_of_ble_eq_true rfl) ?_
  intro p e s m args below meth c A Q hsz hC hM hret ls hl
  have hx := hC.1.1
  have hb := hC.1.2.1
  have hl : lv_has ls 5 [(0, .ref b), (1, .int x1)] := hl
  have hF : mm_fr w w b (b + 13) := mm_fr.rf
  rw [f_X13_boatAtRank] at hf
  refine lv_aload_n hx hb dX13_boatAtRank_0 rfl (lv_at hl 0 rfl) ?_
  refine lv_iconst (v := 0) hx hb dX13_boatAtRank_1 (by decide) ?_
  refine mm_put hC hM (k := 0) tyX13 hp_this.1 rfl inAX13 tyX13_ok nmX13 (by decide) q7_5 rfl rfl rfl rfl (Nat.le_of_ble_eq_true rfl) dX13_boatAtRank_2 (fun w2 H locs hM hm => ?_)
  have hp_this : At13 G w2 b 0 changes errorAt failedAt isSaved v before saved past far scratch best thenX thenY thenMet text line isLeft words wordAt textN hereP endP lineN isWrong isDoing := ⟨hm.1, hm.keep (hp_this.2.1) (by omega), hm.keep (hp_this.2.2.1) (by omega), hm.keep (hp_this.2.2.2.1) (by omega), hm.keep (hp_this.2.2.2.2.1) (by omega), hm.keep (hp_this.2.2.2.2.2.1) (by omega), hm.keep (hp_this.2.2.2.2.2.2.1) (by omega), hm.keep (hp_this.2.2.2.2.2.2.2.1) (by omega), hm.keep (hp_this.2.2.2.2.2.2.2.2.1) (by omega), hm.keep (hp_this.2.2.2.2.2.2.2.2.2.1) (by omega), hm.keep (hp_this.2.2.2.2.2.2.2.2.2.2.1) (by omega), hm.keep (hp_this.2.2.2.2.2.2.2.2.2.2.2.1) (by omega), hm.keep (hp_this.2.2.2.2.2.2.2.2.2.2.2.2) (by omega)⟩
  have hF := hF.tr (hm.fr (by omega) (by omega))
  refine lv_iconst (v := 0) hx hb dX13_boatAtRank_5 (by decide) ?_
  refine lv_istore_n (lv' := [(2, .int 0), (0, .ref b), (1, .int x1)]) hx hb dX13_boatAtRank_6 rfl hl (by decide) rfl (fun ls hl => ?_)
  have L7 : ∀ (n : Nat) (L7_x2 : Int32), f_X13_boatAtRank_L7 K 0 v x1 n L7_x2 = some X → ∀ (H : Heap) (locs : List Loc), mm_S G A s.heap w2 H locs → ∀ (ls : Array Slot), lv_has ls 5 [(0, .ref b), (1, .int x1), (2, .int L7_x2)] → W p l e ({ frames := 1, cells := 0, slots := 0, locals := 21 } : Room) s m args below meth c H locs 0 0 Q (F0 m 7 ls []) := by
    intro n
    induction n with
    | zero => intro L7_x2 hf; cases hf
    | succ n ih =>
      intro L7_x2 hf H locs hM ls hl
      rw [f_X13_boatAtRank_L7] at hf
      refine lv_iload_n hx hb dX13_boatAtRank_7 rfl (lv_at hl 2 rfl) ?_
      refine lv_aload_n hx hb dX13_boatAtRank_8 rfl (lv_at hl 0 rfl) ?_
      refine mm_get hC hM (k := 5) hp_this.1 rfl inAX13 (by decide) q7_10 rfl dX13_boatAtRank_9 ?_
      refine lv_iconst (v := 3) hx hb dX13_boatAtRank_12 (by decide) ?_
      refine mm_ialdN (N := 3) hC hM (hp_this.2.1) (by decide) (by unfold vp_in; decide) dX13_boatAtRank_13 ?_
      refine lv_icmp_ge (tgt := 123) hx hb dX13_boatAtRank_14 (by decide) (fun hcd => ?_) (fun hcd => ?_)
      · rw [if_pos hcd] at hf
        refine lv_aload_n hx hb dX13_boatAtRank_123 rfl (lv_at hl 0 rfl) ?_
        refine lv_iconst (v := 1) hx hb dX13_boatAtRank_124 (by decide) ?_
        obtain ⟨q125, hq125, hf⟩ := mm_bd hf
        refine mm_Vi (rest := []) hC hM (c_X13_fail l hq125 hp_this) q7_112 q1_12 ykX13_fail q7_109 q7_111 qp_bcc4f98e hp_this.1 rfl ⟨rfl, rfl⟩ ⟨Nat.le_of_ble_eq_true rfl, Nat.le_of_ble_eq_true rfl⟩ rfl hl.1 rfl (Nat.le_of_ble_eq_true rfl) dX13_boatAtRank_125 ⟨Nat.le_of_ble_eq_true rfl, Nat.le_of_ble_eq_true rfl⟩ (fun r w125 H locs hM hw => ?_)
        obtain ⟨hr, hn_this, hfr⟩ := hw
        rw [hr]
        have hp_this := hn_this
        have hF := hF.tr (hfr.wide (by omega) (by omega))
        cases hf
        exact hret hM dX13_boatAtRank_128 rfl ⟨rfl, hp_this, hF⟩
      · rw [if_neg hcd] at hf
        refine lv_iconst (v := 0) hx hb dX13_boatAtRank_17 (by decide) ?_
        refine lv_istore_n (lv' := [(3, .int 0), (0, .ref b), (1, .int x1), (2, .int L7_x2)]) hx hb dX13_boatAtRank_18 rfl hl (by decide) rfl (fun ls hl => ?_)
        refine lv_iconst (v := 0) hx hb dX13_boatAtRank_19 (by decide) ?_
        refine lv_istore (lv' := [(4, .int 0), (3, .int 0), (0, .ref b), (1, .int x1), (2, .int L7_x2)]) hx hb dX13_boatAtRank_20 hl (by decide) rfl (fun ls hl => ?_)
        have L22 : ∀ (n : Nat) (L22_x3 : Int32) (L22_x4 : Int32) (X : Int32), f_X13_boatAtRank_L22 v L7_x2 n L22_x3 L22_x4 = some X → ∀ (H : Heap) (locs : List Loc), mm_S G A s.heap w2 H locs → ∀ (ls : Array Slot), lv_has ls 5 [(0, .ref b), (1, .int x1), (2, .int L7_x2), (3, .int L22_x3), (4, .int L22_x4)] → (∀ (H : Heap) (locs : List Loc), mm_S G A s.heap w2 H locs → ∀ (ls : Array Slot), lv_has ls 5 [(0, .ref b), (1, .int x1), (2, .int L7_x2), (3, .int X)] → W p l e ({ frames := 1, cells := 0, slots := 0, locals := 21 } : Room) s m args below meth c H locs 0 0 Q (F0 m 101 ls [])) → W p l e ({ frames := 1, cells := 0, slots := 0, locals := 21 } : Room) s m args below meth c H locs 0 0 Q (F0 m 22 ls []) := by
          intro n
          induction n with
          | zero => intro L22_x3 L22_x4 X hf; cases hf
          | succ n ih =>
            intro L22_x3 L22_x4 X hf H locs hM ls hl hk
            rw [f_X13_boatAtRank_L22] at hf
            refine lv_iload hx hb dX13_boatAtRank_22 (lv_at hl 4 rfl) ?_
            refine lv_aload_n hx hb dX13_boatAtRank_24 rfl (lv_at hl 0 rfl) ?_
            refine mm_get hC hM (k := 5) hp_this.1 rfl inAX13 (by decide) q7_10 rfl dX13_boatAtRank_25 ?_
            refine lv_iconst (v := 3) hx hb dX13_boatAtRank_28 (by decide) ?_
            refine mm_ialdN (N := 3) hC hM (hp_this.2.1) (by decide) (by unfold vp_in; decide) dX13_boatAtRank_29 ?_
            refine lv_icmp_ge (tgt := 101) hx hb dX13_boatAtRank_30 (by decide) (fun hcd => ?_) (fun hcd => ?_)
            · rw [if_pos hcd] at hf
              cases hf
              exact hk _ _ hM _ (lv_sub hl [0, 1, 2, 3] rfl)
            · rw [if_neg hcd] at hf
              refine lv_iload_n hx hb dX13_boatAtRank_33 rfl (lv_at hl 3 rfl) ?_
              refine lv_aload_n hx hb dX13_boatAtRank_34 rfl (lv_at hl 0 rfl) ?_
              refine mm_get hC hM (k := 5) hp_this.1 rfl inAX13 (by decide) q7_10 rfl dX13_boatAtRank_35 ?_
              refine lv_iload hx hb dX13_boatAtRank_38 (lv_at hl 4 rfl) ?_
              refine lv_iconst (v := 3) hx hb dX13_boatAtRank_40 (by decide) ?_
              obtain ⟨q41, hq41, hf⟩ := mm_bd hf
              refine mm_Si (rest := [.ref (b + 1), .int L22_x3]) hC hM (c_X13_of l hq41) q7_126 q1_12 ykX13_of q7_124 q7_125 ⟨rfl, rfl⟩ ⟨Nat.le_of_ble_eq_true rfl, Nat.le_of_ble_eq_true rfl⟩ rfl hl.1 rfl (Nat.le_of_ble_eq_true rfl) dX13_boatAtRank_41 ⟨Nat.le_of_ble_eq_true rfl, Nat.le_of_ble_eq_true rfl⟩ (fun r w41 H locs hM hw => ?_)
              obtain ⟨hr, hw⟩ := hw
              rw [hr]
              rw [hw] at hM
              obtain ⟨hg44, hf⟩ := mm_gd hf
              refine mm_iald hC hM (hp_this.2.1) hg44 dX13_boatAtRank_44 ?_
              refine lv_aload_n hx hb dX13_boatAtRank_45 rfl (lv_at hl 0 rfl) ?_
              refine mm_get hC hM (k := 5) hp_this.1 rfl inAX13 (by decide) q7_10 rfl dX13_boatAtRank_46 ?_
              refine lv_iload_n hx hb dX13_boatAtRank_49 rfl (lv_at hl 2 rfl) ?_
              refine lv_iconst (v := 3) hx hb dX13_boatAtRank_50 (by decide) ?_
              obtain ⟨q51, hq51, hf⟩ := mm_bd hf
              refine mm_Si (rest := [.ref (b + 1), .int (v q41.toNatClampNeg), .int L22_x3]) hC hM (c_X13_of l hq51) q7_126 q1_12 ykX13_of q7_124 q7_125 ⟨rfl, rfl⟩ ⟨Nat.le_of_ble_eq_true rfl, Nat.le_of_ble_eq_true rfl⟩ rfl hl.1 rfl (Nat.le_of_ble_eq_true rfl) dX13_boatAtRank_51 ⟨Nat.le_of_ble_eq_true rfl, Nat.le_of_ble_eq_true rfl⟩ (fun r w51 H locs hM hw => ?_)
              obtain ⟨hr, hw⟩ := hw
              rw [hr]
              rw [hw] at hM
              obtain ⟨hg54, hf⟩ := mm_gd hf
              refine mm_iald hC hM (hp_this.2.1) hg54 dX13_boatAtRank_54 ?_
              refine lv_icmp_gt (tgt := 88) hx hb dX13_boatAtRank_55 (by decide) (fun hcd => ?_) (fun hcd => ?_)
              · rw [if_pos hcd] at hf
                refine lv_iconst (v := 1) hx hb dX13_boatAtRank_88 (by decide) ?_
                refine lv_goto (tgt := 93) hx hb dX13_boatAtRank_89 (by decide) ?_
                refine lv_iadd hx hb dX13_boatAtRank_93 ?_
                refine lv_istore_n (lv' := [(3, .int (L22_x3 + 1)), (0, .ref b), (1, .int x1), (2, .int L7_x2), (4, .int L22_x4)]) hx hb dX13_boatAtRank_94 rfl hl (by decide) rfl (fun ls hl => ?_)
                refine lv_iinc (v := (L22_x4 + 1)) (lv' := [(4, .int (L22_x4 + 1)), (3, .int (L22_x3 + 1)), (0, .ref b), (1, .int x1), (2, .int L7_x2)]) hx hb dX13_boatAtRank_95 hl (k := 4) rfl rfl (by decide) rfl (fun ls hl => ?_)
                refine lv_goto (tgt := 22) hx hb dX13_boatAtRank_98 (by decide) ?_
                exact ih _ _ _ hf _ _ hM _ (lv_sub hl [2, 3, 4, 1, 0] rfl) hk
              · rw [if_neg hcd] at hf
                refine lv_aload_n hx hb dX13_boatAtRank_58 rfl (lv_at hl 0 rfl) ?_
                refine mm_get hC hM (k := 5) hp_this.1 rfl inAX13 (by decide) q7_10 rfl dX13_boatAtRank_59 ?_
                refine lv_iload hx hb dX13_boatAtRank_62 (lv_at hl 4 rfl) ?_
                refine lv_iconst (v := 3) hx hb dX13_boatAtRank_64 (by decide) ?_
                obtain ⟨q65, hq65, hf⟩ := mm_bd hf
                refine mm_Si (rest := [.ref (b + 1), .int L22_x3]) hC hM (c_X13_of l hq65) q7_126 q1_12 ykX13_of q7_124 q7_125 ⟨rfl, rfl⟩ ⟨Nat.le_of_ble_eq_true rfl, Nat.le_of_ble_eq_true rfl⟩ rfl hl.1 rfl (Nat.le_of_ble_eq_true rfl) dX13_boatAtRank_65 ⟨Nat.le_of_ble_eq_true rfl, Nat.le_of_ble_eq_true rfl⟩ (fun r w65 H locs hM hw => ?_)
                obtain ⟨hr, hw⟩ := hw
                rw [hr]
                rw [hw] at hM
                obtain ⟨hg68, hf⟩ := mm_gd hf
                refine mm_iald hC hM (hp_this.2.1) hg68 dX13_boatAtRank_68 ?_
                refine lv_aload_n hx hb dX13_boatAtRank_69 rfl (lv_at hl 0 rfl) ?_
                refine mm_get hC hM (k := 5) hp_this.1 rfl inAX13 (by decide) q7_10 rfl dX13_boatAtRank_70 ?_
                refine lv_iload_n hx hb dX13_boatAtRank_73 rfl (lv_at hl 2 rfl) ?_
                refine lv_iconst (v := 3) hx hb dX13_boatAtRank_74 (by decide) ?_
                obtain ⟨q75, hq75, hf⟩ := mm_bd hf
                refine mm_Si (rest := [.ref (b + 1), .int (v q65.toNatClampNeg), .int L22_x3]) hC hM (c_X13_of l hq75) q7_126 q1_12 ykX13_of q7_124 q7_125 ⟨rfl, rfl⟩ ⟨Nat.le_of_ble_eq_true rfl, Nat.le_of_ble_eq_true rfl⟩ rfl hl.1 rfl (Nat.le_of_ble_eq_true rfl) dX13_boatAtRank_75 ⟨Nat.le_of_ble_eq_true rfl, Nat.le_of_ble_eq_true rfl⟩ (fun r w75 H locs hM hw => ?_)
                obtain ⟨hr, hw⟩ := hw
                rw [hr]
                rw [hw] at hM
                obtain ⟨hg78, hf⟩ := mm_gd hf
                refine mm_iald hC hM (hp_this.2.1) hg78 dX13_boatAtRank_78 ?_
                refine lv_icmp_ne (tgt := 92) hx hb dX13_boatAtRank_79 (by decide) (fun hcd => ?_) (fun hcd => ?_)
                · rw [if_neg hcd] at hf
                  refine lv_iconst (v := 0) hx hb dX13_boatAtRank_92 (by decide) ?_
                  refine lv_iadd hx hb dX13_boatAtRank_93 ?_
                  refine lv_istore_n (lv' := [(3, .int (L22_x3 + 0)), (0, .ref b), (1, .int x1), (2, .int L7_x2), (4, .int L22_x4)]) hx hb dX13_boatAtRank_94 rfl hl (by decide) rfl (fun ls hl => ?_)
                  refine lv_iinc (v := (L22_x4 + 1)) (lv' := [(4, .int (L22_x4 + 1)), (3, .int (L22_x3 + 0)), (0, .ref b), (1, .int x1), (2, .int L7_x2)]) hx hb dX13_boatAtRank_95 hl (k := 4) rfl rfl (by decide) rfl (fun ls hl => ?_)
                  refine lv_goto (tgt := 22) hx hb dX13_boatAtRank_98 (by decide) ?_
                  exact ih _ _ _ hf _ _ hM _ (lv_sub hl [2, 3, 4, 1, 0] rfl) hk
                · rw [if_pos hcd] at hf
                  refine lv_iload hx hb dX13_boatAtRank_82 (lv_at hl 4 rfl) ?_
                  refine lv_iload_n hx hb dX13_boatAtRank_84 rfl (lv_at hl 2 rfl) ?_
                  refine lv_icmp_ge (tgt := 92) hx hb dX13_boatAtRank_85 (by decide) (fun hcd => ?_) (fun hcd => ?_)
                  · rw [if_pos hcd] at hf
                    refine lv_iconst (v := 0) hx hb dX13_boatAtRank_92 (by decide) ?_
                    refine lv_iadd hx hb dX13_boatAtRank_93 ?_
                    refine lv_istore_n (lv' := [(3, .int (L22_x3 + 0)), (0, .ref b), (1, .int x1), (2, .int L7_x2), (4, .int L22_x4)]) hx hb dX13_boatAtRank_94 rfl hl (by decide) rfl (fun ls hl => ?_)
                    refine lv_iinc (v := (L22_x4 + 1)) (lv' := [(4, .int (L22_x4 + 1)), (3, .int (L22_x3 + 0)), (0, .ref b), (1, .int x1), (2, .int L7_x2)]) hx hb dX13_boatAtRank_95 hl (k := 4) rfl rfl (by decide) rfl (fun ls hl => ?_)
                    refine lv_goto (tgt := 22) hx hb dX13_boatAtRank_98 (by decide) ?_
                    exact ih _ _ _ hf _ _ hM _ (lv_sub hl [2, 3, 4, 1, 0] rfl) hk
                  · rw [if_neg hcd] at hf
                    refine lv_iconst (v := 1) hx hb dX13_boatAtRank_88 (by decide) ?_
                    refine lv_goto (tgt := 93) hx hb dX13_boatAtRank_89 (by decide) ?_
                    refine lv_iadd hx hb dX13_boatAtRank_93 ?_
                    refine lv_istore_n (lv' := [(3, .int (L22_x3 + 1)), (0, .ref b), (1, .int x1), (2, .int L7_x2), (4, .int L22_x4)]) hx hb dX13_boatAtRank_94 rfl hl (by decide) rfl (fun ls hl => ?_)
                    refine lv_iinc (v := (L22_x4 + 1)) (lv' := [(4, .int (L22_x4 + 1)), (3, .int (L22_x3 + 1)), (0, .ref b), (1, .int x1), (2, .int L7_x2)]) hx hb dX13_boatAtRank_95 hl (k := 4) rfl rfl (by decide) rfl (fun ls hl => ?_)
                    refine lv_goto (tgt := 22) hx hb dX13_boatAtRank_98 (by decide) ?_
                    exact ih _ _ _ hf _ _ hM _ (lv_sub hl [2, 3, 4, 1, 0] rfl) hk
        obtain ⟨q22, hq22, hf⟩ := mm_bd hf
        refine L22 K _ _ _ hq22 _ _ hM _ (lv_sub hl [2, 3, 4, 1, 0] rfl) (fun H locs hM ls hl => ?_)
        refine lv_iload_n hx hb dX13_boatAtRank_101 rfl (lv_at hl 3 rfl) ?_
        refine lv_iload_n hx hb dX13_boatAtRank_102 rfl (lv_at hl 1 rfl) ?_
        refine lv_icmp_ne (tgt := 117) hx hb dX13_boatAtRank_103 (by decide) (fun hcd => ?_) (fun hcd => ?_)
        · rw [if_neg hcd] at hf
          refine lv_iinc (v := (L7_x2 + 1)) (lv' := [(2, .int (L7_x2 + 1)), (0, .ref b), (1, .int x1), (3, .int q22)]) hx hb dX13_boatAtRank_117 hl (k := 2) rfl rfl (by decide) rfl (fun ls hl => ?_)
          refine lv_goto (tgt := 7) hx hb dX13_boatAtRank_120 (by decide) ?_
          exact ih _ hf _ _ hM _ (lv_sub hl [1, 2, 0] rfl)
        · rw [if_pos hcd] at hf
          refine lv_aload_n hx hb dX13_boatAtRank_106 rfl (lv_at hl 0 rfl) ?_
          refine mm_get hC hM (k := 5) hp_this.1 rfl inAX13 (by decide) q7_10 rfl dX13_boatAtRank_107 ?_
          refine lv_iload_n hx hb dX13_boatAtRank_110 rfl (lv_at hl 2 rfl) ?_
          refine lv_iconst (v := 0) hx hb dX13_boatAtRank_111 (by decide) ?_
          obtain ⟨q112, hq112, hf⟩ := mm_bd hf
          refine mm_Si (rest := [.ref (b + 1)]) hC hM (c_X13_of l hq112) q7_126 q1_12 ykX13_of q7_124 q7_125 ⟨rfl, rfl⟩ ⟨Nat.le_of_ble_eq_true rfl, Nat.le_of_ble_eq_true rfl⟩ rfl hl.1 rfl (Nat.le_of_ble_eq_true rfl) dX13_boatAtRank_112 ⟨Nat.le_of_ble_eq_true rfl, Nat.le_of_ble_eq_true rfl⟩ (fun r w112 H locs hM hw => ?_)
          obtain ⟨hr, hw⟩ := hw
          rw [hr]
          rw [hw] at hM
          obtain ⟨hg115, hf⟩ := mm_gd hf
          refine mm_iald hC hM (hp_this.2.1) hg115 dX13_boatAtRank_115 ?_
          cases hf
          exact hret hM dX13_boatAtRank_116 rfl ⟨rfl, hp_this, hF⟩
  exact L7 K _ hf _ _ hM _ (lv_sub hl [1, 2, 0] rfl)
def f_X13_move (x0 : Int32) : Option (Int32) := if x0 = 85 then some 0 else if x0 = 68 then some 1 else if x0 = 76 then some 2 else if x0 = 82 then some 3 else some (-1)
set_option maxHeartbeats 4000000 in
set_option maxRecDepth 100000 in
theorem c_X13_move (l : Launch) {G : mm_G} {w : va_W} {sz : Nat} {x0 : Int32} {X : Int32} (hf : f_X13_move x0 = some X) : Met l yX13_move (Cond.code yX13_move cX13_move 1 (some .int) :: gAll) ({ frames := 0, cells := 0, slots := 0, locals := 0 }) (va_Pc [.int x0] (mm_Pre G w sz)) (mm_Qi G w sz (fun r w' => r = X ∧ w' = w)) 0 0 (va_A w sz) := by
  refine mm_headI [.int x0] (by decide +kernel) rfl (Nat.le_of_ble_eq_true rfl) ?_
  intro p e s m args below meth c A Q hsz hC hM hret ls hl
  have hx := hC.1.1
  have hb := hC.1.2.1
  have hl : lv_has ls 1 [(0, .int x0)] := hl
  rw [f_X13_move] at hf
  refine lv_iload_n hx hb dX13_move_0 rfl (lv_at hl 0 rfl) ?_
  refine lv_bipush (v := 85) hx hb dX13_move_1 (by decide) ?_
  refine lv_icmp_ne (tgt := 10) hx hb dX13_move_3 (by decide) (fun hcd => ?_) (fun hcd => ?_)
  · rw [if_neg hcd] at hf
    refine lv_iload_n hx hb dX13_move_10 rfl (lv_at hl 0 rfl) ?_
    refine lv_bipush (v := 68) hx hb dX13_move_11 (by decide) ?_
    refine lv_icmp_ne (tgt := 20) hx hb dX13_move_13 (by decide) (fun hcd => ?_) (fun hcd => ?_)
    · rw [if_neg hcd] at hf
      refine lv_iload_n hx hb dX13_move_20 rfl (lv_at hl 0 rfl) ?_
      refine lv_bipush (v := 76) hx hb dX13_move_21 (by decide) ?_
      refine lv_icmp_ne (tgt := 30) hx hb dX13_move_23 (by decide) (fun hcd => ?_) (fun hcd => ?_)
      · rw [if_neg hcd] at hf
        refine lv_iload_n hx hb dX13_move_30 rfl (lv_at hl 0 rfl) ?_
        refine lv_bipush (v := 82) hx hb dX13_move_31 (by decide) ?_
        refine lv_icmp_ne (tgt := 40) hx hb dX13_move_33 (by decide) (fun hcd => ?_) (fun hcd => ?_)
        · rw [if_neg hcd] at hf
          refine lv_iconst (v := (-1)) hx hb dX13_move_40 (by decide) ?_
          cases hf
          exact hret hM dX13_move_41 rfl ⟨rfl, rfl⟩
        · rw [if_pos hcd] at hf
          refine lv_iconst (v := 3) hx hb dX13_move_36 (by decide) ?_
          refine lv_goto (tgt := 41) hx hb dX13_move_37 (by decide) ?_
          cases hf
          exact hret hM dX13_move_41 rfl ⟨rfl, rfl⟩
      · rw [if_pos hcd] at hf
        refine lv_iconst (v := 2) hx hb dX13_move_26 (by decide) ?_
        refine lv_goto (tgt := 41) hx hb dX13_move_27 (by decide) ?_
        cases hf
        exact hret hM dX13_move_41 rfl ⟨rfl, rfl⟩
    · rw [if_pos hcd] at hf
      refine lv_iconst (v := 1) hx hb dX13_move_16 (by decide) ?_
      refine lv_goto (tgt := 41) hx hb dX13_move_17 (by decide) ?_
      cases hf
      exact hret hM dX13_move_41 rfl ⟨rfl, rfl⟩
  · rw [if_pos hcd] at hf
    refine lv_iconst (v := 0) hx hb dX13_move_6 (by decide) ?_
    refine lv_goto (tgt := 41) hx hb dX13_move_7 (by decide) ?_
    cases hf
    exact hret hM dX13_move_41 rfl ⟨rfl, rfl⟩
def f_X13_letter (x0 : Int32) : Option (Int32) := if x0 = 0 then some 85 else if x0 = 1 then some 68 else if x0 = 2 then some 76 else some 82
set_option maxHeartbeats 4000000 in
set_option maxRecDepth 100000 in
theorem c_X13_letter (l : Launch) {G : mm_G} {w : va_W} {sz : Nat} {x0 : Int32} {X : Int32} (hf : f_X13_letter x0 = some X) : Met l yX13_letter (Cond.code yX13_letter cX13_letter 1 (some .int) :: gAll) ({ frames := 0, cells := 0, slots := 0, locals := 0 }) (va_Pc [.int x0] (mm_Pre G w sz)) (mm_Qi G w sz (fun r w' => r = X ∧ w' = w)) 0 0 (va_A w sz) := by
  refine mm_headI [.int x0] (by decide +kernel) rfl (Nat.le_of_ble_eq_true rfl) ?_
  intro p e s m args below meth c A Q hsz hC hM hret ls hl
  have hx := hC.1.1
  have hb := hC.1.2.1
  have hl : lv_has ls 1 [(0, .int x0)] := hl
  rw [f_X13_letter] at hf
  refine lv_iload_n hx hb dX13_letter_0 rfl (lv_at hl 0 rfl) ?_
  refine lv_if_ne (tgt := 9) hx hb dX13_letter_1 (by decide) (fun hcd => ?_) (fun hcd => ?_)
  · rw [if_neg hcd] at hf
    refine lv_iload_n hx hb dX13_letter_9 rfl (lv_at hl 0 rfl) ?_
    refine lv_iconst (v := 1) hx hb dX13_letter_10 (by decide) ?_
    refine lv_icmp_ne (tgt := 19) hx hb dX13_letter_11 (by decide) (fun hcd => ?_) (fun hcd => ?_)
    · rw [if_neg hcd] at hf
      refine lv_iload_n hx hb dX13_letter_19 rfl (lv_at hl 0 rfl) ?_
      refine lv_iconst (v := 2) hx hb dX13_letter_20 (by decide) ?_
      refine lv_icmp_ne (tgt := 29) hx hb dX13_letter_21 (by decide) (fun hcd => ?_) (fun hcd => ?_)
      · rw [if_neg hcd] at hf
        refine lv_bipush (v := 82) hx hb dX13_letter_29 (by decide) ?_
        cases hf
        exact hret hM dX13_letter_31 rfl ⟨rfl, rfl⟩
      · rw [if_pos hcd] at hf
        refine lv_bipush (v := 76) hx hb dX13_letter_24 (by decide) ?_
        refine lv_goto (tgt := 31) hx hb dX13_letter_26 (by decide) ?_
        cases hf
        exact hret hM dX13_letter_31 rfl ⟨rfl, rfl⟩
    · rw [if_pos hcd] at hf
      refine lv_bipush (v := 68) hx hb dX13_letter_14 (by decide) ?_
      refine lv_goto (tgt := 31) hx hb dX13_letter_16 (by decide) ?_
      cases hf
      exact hret hM dX13_letter_31 rfl ⟨rfl, rfl⟩
  · rw [if_pos hcd] at hf
    refine lv_bipush (v := 85) hx hb dX13_letter_4 (by decide) ?_
    refine lv_goto (tgt := 31) hx hb dX13_letter_6 (by decide) ?_
    cases hf
    exact hret hM dX13_letter_31 rfl ⟨rfl, rfl⟩
def f_X13_appends (thrown : Int32) (v : Nat → Int32) (x1 : Int32) (x2 : Int32) : Option (Int32 × Int32 × (Nat → Int32)) := (f_X13_isPlan x1).bind fun q1 => if q1 = 0 then (f_X13_fail 1).bind fun q9 => some (q9.1, q9.2, v) else if 0 ≤ x2 then mm_g (mm_ck (104 + x1) 238) (if (v (104 + x1).toNatClampNeg) = 20 then (f_X13_fail 3).bind fun q41 => some (q41.1, q41.2, v) else (f_X13_at x1 (v (104 + x1).toNatClampNeg)).bind fun q51 => mm_g (mm_ck q51 238) (mm_g (mm_ck (104 + x1) 238) (mm_g (mm_ck (104 + x1) 238) (mm_g (mm_ck (104 + x1) 238) (some (((upd (upd v q51.toNatClampNeg x2) ((104 + x1).toNatClampNeg) (((upd v q51.toNatClampNeg x2) (104 + x1).toNatClampNeg) + 1)) (104 + x1).toNatClampNeg), thrown, (upd (upd v q51.toNatClampNeg x2) ((104 + x1).toNatClampNeg) (((upd v q51.toNatClampNeg x2) (104 + x1).toNatClampNeg) + 1)))))))) else (f_X13_fail 2).bind fun q19 => some (q19.1, q19.2, v)
set_option maxHeartbeats 4000000 in
set_option maxRecDepth 100000 in
theorem c_X13_appends (l : Launch) {G : mm_G} {w : va_W} {sz : Nat} {b : Nat} {thrown : Int32} {changes : Int32} {errorAt : Int32} {failedAt : Int32} {isSaved : Int32} {v : Nat → Int32} {before : Nat → Int32} {saved : Nat → Int32} {past : Nat → Int32} {far : Nat → Int32} {scratch : Nat → Int32} {best : Nat → Int32} {thenX : Int32} {thenY : Int32} {thenMet : Int32} {text : Nat → Int32} {line : Nat → Int32} {isLeft : Nat → Int32} {words : Nat → Int32} {wordAt : Nat → Int32} {textN : Int32} {hereP : Int32} {endP : Int32} {lineN : Int32} {isWrong : Int32} {isDoing : Int32} {x1 : Int32} {x2 : Int32} {X : Int32 × Int32 × (Nat → Int32)} (hf : f_X13_appends thrown v x1 x2 = some X) (hp_this : At13 G w b thrown changes errorAt failedAt isSaved v before saved past far scratch best thenX thenY thenMet text line isLeft words wordAt textN hereP endP lineN isWrong isDoing) : Met l yX13_appends (Cond.code yX13_appends cX13_appends 4 (some .int) :: gAll) ({ frames := 2, cells := 0, slots := 0, locals := 42 }) (va_Pc [.ref b, .int x1, .int x2] (mm_Pre G w sz)) (mm_Qi G w sz (fun r w' => r = X.1 ∧ At13 G w' b X.2.1 changes errorAt failedAt isSaved X.2.2 before saved past far scratch best thenX thenY thenMet text line isLeft words wordAt textN hereP endP lineN isWrong isDoing ∧ mm_fr w w' b (b + 13))) 0 0 (va_A w sz) := by
  refine mm_headI [.ref b, .int x1, .int x2] (by decide +kernel) rfl (Nat.le_of_ble_eq_true rfl) ?_
  intro p e s m args below meth c A Q hsz hC hM hret ls hl
  have hx := hC.1.1
  have hb := hC.1.2.1
  have hl : lv_has ls 4 [(0, .ref b), (1, .int x1), (2, .int x2)] := hl
  have hF : mm_fr w w b (b + 13) := mm_fr.rf
  rw [f_X13_appends] at hf
  refine lv_iload_n hx hb dX13_appends_0 rfl (lv_at hl 1 rfl) ?_
  obtain ⟨q1, hq1, hf⟩ := mm_bd hf
  refine mm_Si (rest := []) hC hM (c_X13_isPlan l hq1) q8_28 q1_12 ykX13_isPlan q8_26 q8_27 ⟨rfl, rfl⟩ ⟨Nat.le_of_ble_eq_true rfl, Nat.le_of_ble_eq_true rfl⟩ rfl hl.1 rfl (Nat.le_of_ble_eq_true rfl) dX13_appends_1 ⟨Nat.le_of_ble_eq_true rfl, Nat.le_of_ble_eq_true rfl⟩ (fun r w1 H locs hM hw => ?_)
  obtain ⟨hr, hw⟩ := hw
  rw [hr]
  rw [hw] at hM
  refine lv_if_ne (tgt := 13) hx hb dX13_appends_4 (by decide) (fun hcd => ?_) (fun hcd => ?_)
  · rw [if_neg hcd] at hf
    refine lv_iload_n hx hb dX13_appends_13 rfl (lv_at hl 2 rfl) ?_
    refine lv_if_ge (tgt := 23) hx hb dX13_appends_14 (by decide) (fun hcd => ?_) (fun hcd => ?_)
    · rw [if_pos hcd] at hf
      refine lv_aload_n hx hb dX13_appends_23 rfl (lv_at hl 0 rfl) ?_
      refine mm_get hC hM (k := 5) hp_this.1 rfl inAX13 (by decide) q7_10 rfl dX13_appends_24 ?_
      refine lv_bipush (v := 104) hx hb dX13_appends_27 (by decide) ?_
      refine lv_iload_n hx hb dX13_appends_29 rfl (lv_at hl 1 rfl) ?_
      refine lv_iadd hx hb dX13_appends_30 ?_
      obtain ⟨hg31, hf⟩ := mm_gd hf
      refine mm_iald hC hM (hp_this.2.1) hg31 dX13_appends_31 ?_
      refine lv_istore_n (lv' := [(3, .int (v (104 + x1).toNatClampNeg)), (0, .ref b), (1, .int x1), (2, .int x2)]) hx hb dX13_appends_32 rfl hl (by decide) rfl (fun ls hl => ?_)
      refine lv_iload_n hx hb dX13_appends_33 rfl (lv_at hl 0 rfl) ?_
      refine lv_bipush (v := 20) hx hb dX13_appends_34 (by decide) ?_
      refine lv_icmp_ne (tgt := 45) hx hb dX13_appends_36 (by decide) (fun hcd => ?_) (fun hcd => ?_)
      · rw [if_neg hcd] at hf
        refine lv_aload_n hx hb dX13_appends_45 rfl (lv_at hl 1 rfl) ?_
        refine mm_get hC hM (k := 5) hp_this.1 rfl inAX13 (by decide) q7_10 rfl dX13_appends_46 ?_
        refine lv_iload_n hx hb dX13_appends_49 rfl (lv_at hl 2 rfl) ?_
        refine lv_iload_n hx hb dX13_appends_50 rfl (lv_at hl 0 rfl) ?_
        obtain ⟨q51, hq51, hf⟩ := mm_bd hf
        refine mm_Si (rest := [.ref (b + 1)]) hC hM (c_X13_at l hq51) q8_31 q1_12 ykX13_at q8_29 q8_30 ⟨rfl, rfl⟩ ⟨Nat.le_of_ble_eq_true rfl, Nat.le_of_ble_eq_true rfl⟩ rfl hl.1 rfl (Nat.le_of_ble_eq_true rfl) dX13_appends_51 ⟨Nat.le_of_ble_eq_true rfl, Nat.le_of_ble_eq_true rfl⟩ (fun r w51 H locs hM hw => ?_)
        obtain ⟨hr, hw⟩ := hw
        rw [hr]
        rw [hw] at hM
        refine lv_iload_n hx hb dX13_appends_54 rfl (lv_at hl 3 rfl) ?_
        obtain ⟨hg55, hf⟩ := mm_gd hf
        refine mm_iast hC hM (hp_this.2.1) hg55 dX13_appends_55 (fun w55 H locs hM hm => ?_)
        have hp_this : At13 G w55 b thrown changes errorAt failedAt isSaved (upd v q51.toNatClampNeg x2) before saved past far scratch best thenX thenY thenMet text line isLeft words wordAt textN hereP endP lineN isWrong isDoing := ⟨hm.keep (hp_this.1) (by omega), hm.1, hm.keep (hp_this.2.2.1) (by omega), hm.keep (hp_this.2.2.2.1) (by omega), hm.keep (hp_this.2.2.2.2.1) (by omega), hm.keep (hp_this.2.2.2.2.2.1) (by omega), hm.keep (hp_this.2.2.2.2.2.2.1) (by omega), hm.keep (hp_this.2.2.2.2.2.2.2.1) (by omega), hm.keep (hp_this.2.2.2.2.2.2.2.2.1) (by omega), hm.keep (hp_this.2.2.2.2.2.2.2.2.2.1) (by omega), hm.keep (hp_this.2.2.2.2.2.2.2.2.2.2.1) (by omega), hm.keep (hp_this.2.2.2.2.2.2.2.2.2.2.2.1) (by omega), hm.keep (hp_this.2.2.2.2.2.2.2.2.2.2.2.2) (by omega)⟩
        have hF := hF.tr (hm.fr (by omega) (by omega))
        refine lv_aload_n hx hb dX13_appends_56 rfl (lv_at hl 1 rfl) ?_
        refine mm_get hC hM (k := 5) hp_this.1 rfl inAX13 (by decide) q7_10 rfl dX13_appends_57 ?_
        refine lv_bipush (v := 104) hx hb dX13_appends_60 (by decide) ?_
        refine lv_iload_n hx hb dX13_appends_62 rfl (lv_at hl 2 rfl) ?_
        refine lv_iadd hx hb dX13_appends_63 ?_
        refine lv_dup2_11 hx hb dX13_appends_64 rfl rfl ?_
        obtain ⟨hg65, hf⟩ := mm_gd hf
        refine mm_iald hC hM (hp_this.2.1) hg65 dX13_appends_65 ?_
        refine lv_iconst (v := 1) hx hb dX13_appends_66 (by decide) ?_
        refine lv_iadd hx hb dX13_appends_67 ?_
        obtain ⟨hg68, hf⟩ := mm_gd hf
        refine mm_iast hC hM (hp_this.2.1) hg68 dX13_appends_68 (fun w68 H locs hM hm => ?_)
        have hp_this : At13 G w68 b thrown changes errorAt failedAt isSaved (upd (upd v q51.toNatClampNeg x2) ((104 + x1).toNatClampNeg) (((upd v q51.toNatClampNeg x2) (104 + x1).toNatClampNeg) + 1)) before saved past far scratch best thenX thenY thenMet text line isLeft words wordAt textN hereP endP lineN isWrong isDoing := ⟨hm.keep (hp_this.1) (by omega), hm.1, hm.keep (hp_this.2.2.1) (by omega), hm.keep (hp_this.2.2.2.1) (by omega), hm.keep (hp_this.2.2.2.2.1) (by omega), hm.keep (hp_this.2.2.2.2.2.1) (by omega), hm.keep (hp_this.2.2.2.2.2.2.1) (by omega), hm.keep (hp_this.2.2.2.2.2.2.2.1) (by omega), hm.keep (hp_this.2.2.2.2.2.2.2.2.1) (by omega), hm.keep (hp_this.2.2.2.2.2.2.2.2.2.1) (by omega), hm.keep (hp_this.2.2.2.2.2.2.2.2.2.2.1) (by omega), hm.keep (hp_this.2.2.2.2.2.2.2.2.2.2.2.1) (by omega), hm.keep (hp_this.2.2.2.2.2.2.2.2.2.2.2.2) (by omega)⟩
        have hF := hF.tr (hm.fr (by omega) (by omega))
        refine lv_aload_n hx hb dX13_appends_69 rfl (lv_at hl 1 rfl) ?_
        refine mm_get hC hM (k := 5) hp_this.1 rfl inAX13 (by decide) q7_10 rfl dX13_appends_70 ?_
        refine lv_bipush (v := 104) hx hb dX13_appends_73 (by decide) ?_
        refine lv_iload_n hx hb dX13_appends_75 rfl (lv_at hl 2 rfl) ?_
        refine lv_iadd hx hb dX13_appends_76 ?_
        obtain ⟨hg77, hf⟩ := mm_gd hf
        refine mm_iald hC hM (hp_this.2.1) hg77 dX13_appends_77 ?_
        cases hf
        exact hret hM dX13_appends_78 rfl ⟨rfl, hp_this, hF⟩
      · rw [if_pos hcd] at hf
        refine lv_aload_n hx hb dX13_appends_39 rfl (lv_at hl 1 rfl) ?_
        refine lv_iconst (v := 3) hx hb dX13_appends_40 (by decide) ?_
        obtain ⟨q41, hq41, hf⟩ := mm_bd hf
        refine mm_Vi (rest := []) hC hM (c_X13_fail l hq41 hp_this) q7_112 q1_12 ykX13_fail q7_109 q7_111 qp_bcc4f98e hp_this.1 rfl ⟨rfl, rfl⟩ ⟨Nat.le_of_ble_eq_true rfl, Nat.le_of_ble_eq_true rfl⟩ rfl hl.1 rfl (Nat.le_of_ble_eq_true rfl) dX13_appends_41 ⟨Nat.le_of_ble_eq_true rfl, Nat.le_of_ble_eq_true rfl⟩ (fun r w41 H locs hM hw => ?_)
        obtain ⟨hr, hn_this, hfr⟩ := hw
        rw [hr]
        have hp_this := hn_this
        have hF := hF.tr (hfr.wide (by omega) (by omega))
        cases hf
        exact hret hM dX13_appends_44 rfl ⟨rfl, hp_this, hF⟩
    · rw [if_neg hcd] at hf
      refine lv_aload_n hx hb dX13_appends_17 rfl (lv_at hl 0 rfl) ?_
      refine lv_iconst (v := 2) hx hb dX13_appends_18 (by decide) ?_
      obtain ⟨q19, hq19, hf⟩ := mm_bd hf
      refine mm_Vi (rest := []) hC hM (c_X13_fail l hq19 hp_this) q7_112 q1_12 ykX13_fail q7_109 q7_111 qp_bcc4f98e hp_this.1 rfl ⟨rfl, rfl⟩ ⟨Nat.le_of_ble_eq_true rfl, Nat.le_of_ble_eq_true rfl⟩ rfl hl.1 rfl (Nat.le_of_ble_eq_true rfl) dX13_appends_19 ⟨Nat.le_of_ble_eq_true rfl, Nat.le_of_ble_eq_true rfl⟩ (fun r w19 H locs hM hw => ?_)
      obtain ⟨hr, hn_this, hfr⟩ := hw
      rw [hr]
      have hp_this := hn_this
      have hF := hF.tr (hfr.wide (by omega) (by omega))
      cases hf
      exact hret hM dX13_appends_22 rfl ⟨rfl, hp_this, hF⟩
  · rw [if_pos hcd] at hf
    refine lv_aload_n hx hb dX13_appends_7 rfl (lv_at hl 0 rfl) ?_
    refine lv_iconst (v := 1) hx hb dX13_appends_8 (by decide) ?_
    obtain ⟨q9, hq9, hf⟩ := mm_bd hf
    refine mm_Vi (rest := []) hC hM (c_X13_fail l hq9 hp_this) q7_112 q1_12 ykX13_fail q7_109 q7_111 qp_bcc4f98e hp_this.1 rfl ⟨rfl, rfl⟩ ⟨Nat.le_of_ble_eq_true rfl, Nat.le_of_ble_eq_true rfl⟩ rfl hl.1 rfl (Nat.le_of_ble_eq_true rfl) dX13_appends_9 ⟨Nat.le_of_ble_eq_true rfl, Nat.le_of_ble_eq_true rfl⟩ (fun r w9 H locs hM hw => ?_)
    obtain ⟨hr, hn_this, hfr⟩ := hw
    rw [hr]
    have hp_this := hn_this
    have hF := hF.tr (hfr.wide (by omega) (by omega))
    cases hf
    exact hret hM dX13_appends_12 rfl ⟨rfl, hp_this, hF⟩
def f_X13_addMove (K : Nat) (changes : Int32) (v : Nat → Int32) (before : Nat → Int32) (past : Nat → Int32) (x1 : Int32) (x2 : Int32) : Option (Int32 × Int32 × Int32 × (Nat → Int32) × (Nat → Int32) × (Nat → Int32)) := (f_X13_begins K v before).bind fun q1 => (f_X13_move x2).bind fun q8 => (f_X13_appends q1.1 v x1 q8).bind fun q11 => (f_X13_ends K q11.2.1 changes q11.2.2 q1.2 past q11.1).bind fun q14 => some (q14.1, q11.2.1, q14.2.1, q14.2.2.1, q1.2, q14.2.2.2)
set_option maxHeartbeats 4000000 in
set_option maxRecDepth 100000 in
theorem c_X13_addMove (l : Launch) {G : mm_G} {K : Nat} {w : va_W} {sz : Nat} {b : Nat} {thrown : Int32} {changes : Int32} {errorAt : Int32} {failedAt : Int32} {isSaved : Int32} {v : Nat → Int32} {before : Nat → Int32} {saved : Nat → Int32} {past : Nat → Int32} {far : Nat → Int32} {scratch : Nat → Int32} {best : Nat → Int32} {thenX : Int32} {thenY : Int32} {thenMet : Int32} {text : Nat → Int32} {line : Nat → Int32} {isLeft : Nat → Int32} {words : Nat → Int32} {wordAt : Nat → Int32} {textN : Int32} {hereP : Int32} {endP : Int32} {lineN : Int32} {isWrong : Int32} {isDoing : Int32} {x1 : Int32} {x2 : Int32} {X : Int32 × Int32 × Int32 × (Nat → Int32) × (Nat → Int32) × (Nat → Int32)} (hf : f_X13_addMove K changes v before past x1 x2 = some X) (hp_this : At13 G w b thrown changes errorAt failedAt isSaved v before saved past far scratch best thenX thenY thenMet text line isLeft words wordAt textN hereP endP lineN isWrong isDoing) : Met l yX13_addMove (Cond.code yX13_addMove cX13_addMove 3 (some .int) :: gAll) ({ frames := 3, cells := 0, slots := 0, locals := 65 }) (va_Pc [.ref b, .int x1, .int x2] (mm_Pre G w sz)) (mm_Qi G w sz (fun r w' => r = X.1 ∧ At13 G w' b X.2.1 X.2.2.1 errorAt failedAt isSaved X.2.2.2.1 X.2.2.2.2.1 saved X.2.2.2.2.2 far scratch best thenX thenY thenMet text line isLeft words wordAt textN hereP endP lineN isWrong isDoing ∧ mm_fr w w' b (b + 13))) 0 0 (va_A w sz) := by
  refine mm_headI [.ref b, .int x1, .int x2] (by decide +kernel) rfl (Nat.le_of_ble_eq_true rfl) ?_
  intro p e s m args below meth c A Q hsz hC hM hret ls hl
  have hx := hC.1.1
  have hb := hC.1.2.1
  have hl : lv_has ls 3 [(0, .ref b), (1, .int x1), (2, .int x2)] := hl
  have hF : mm_fr w w b (b + 13) := mm_fr.rf
  rw [f_X13_addMove] at hf
  refine lv_aload_n hx hb dX13_addMove_0 rfl (lv_at hl 0 rfl) ?_
  obtain ⟨q1, hq1, hf⟩ := mm_bd hf
  refine mm_Vv (rest := []) hC hM (c_X13_begins l hq1 hp_this) q7_95 q1_12 ykX13_begins q7_92 q7_94 qp_0e68fe50 hp_this.1 rfl ⟨rfl, rfl⟩ ⟨Nat.le_of_ble_eq_true rfl, Nat.le_of_ble_eq_true rfl⟩ rfl hl.1 rfl (Nat.le_of_ble_eq_true rfl) dX13_addMove_1 ⟨Nat.le_of_ble_eq_true rfl, Nat.le_of_ble_eq_true rfl⟩ (fun w1 H locs hM hw => ?_)
  obtain ⟨hn_this, hfr⟩ := hw
  have hp_this := hn_this
  have hF := hF.tr (hfr.wide (by omega) (by omega))
  refine lv_aload_n hx hb dX13_addMove_4 rfl (lv_at hl 0 rfl) ?_
  refine lv_aload_n hx hb dX13_addMove_5 rfl (lv_at hl 0 rfl) ?_
  refine lv_iload_n hx hb dX13_addMove_6 rfl (lv_at hl 1 rfl) ?_
  refine lv_iload_n hx hb dX13_addMove_7 rfl (lv_at hl 2 rfl) ?_
  obtain ⟨q8, hq8, hf⟩ := mm_bd hf
  refine mm_Si (rest := [.int x1, .ref b, .ref b]) hC hM (c_X13_move l hq8) q8_21 q1_12 ykX13_move q8_19 q8_20 ⟨rfl, rfl⟩ ⟨Nat.le_of_ble_eq_true rfl, Nat.le_of_ble_eq_true rfl⟩ rfl hl.1 rfl (Nat.le_of_ble_eq_true rfl) dX13_addMove_8 ⟨Nat.le_of_ble_eq_true rfl, Nat.le_of_ble_eq_true rfl⟩ (fun r w8 H locs hM hw => ?_)
  obtain ⟨hr, hw⟩ := hw
  rw [hr]
  rw [hw] at hM
  obtain ⟨q11, hq11, hf⟩ := mm_bd hf
  refine mm_Vi (rest := [.ref b]) hC hM (c_X13_appends l hq11 hp_this) q8_25 q1_12 ykX13_appends q8_22 q8_24 qp_a91325c9 hp_this.1 rfl ⟨rfl, rfl⟩ ⟨Nat.le_of_ble_eq_true rfl, Nat.le_of_ble_eq_true rfl⟩ rfl hl.1 rfl (Nat.le_of_ble_eq_true rfl) dX13_addMove_11 ⟨Nat.le_of_ble_eq_true rfl, Nat.le_of_ble_eq_true rfl⟩ (fun r w11 H locs hM hw => ?_)
  obtain ⟨hr, hn_this, hfr⟩ := hw
  rw [hr]
  have hp_this := hn_this
  have hF := hF.tr (hfr.wide (by omega) (by omega))
  obtain ⟨q14, hq14, hf⟩ := mm_bd hf
  refine mm_Vi (rest := []) hC hM (c_X13_ends l hq14 hp_this) q7_133 q1_12 ykX13_ends q7_130 q7_132 qp_952383d2 hp_this.1 rfl ⟨rfl, rfl⟩ ⟨Nat.le_of_ble_eq_true rfl, Nat.le_of_ble_eq_true rfl⟩ rfl hl.1 rfl (Nat.le_of_ble_eq_true rfl) dX13_addMove_14 ⟨Nat.le_of_ble_eq_true rfl, Nat.le_of_ble_eq_true rfl⟩ (fun r w14 H locs hM hw => ?_)
  obtain ⟨hr, hn_this, hfr⟩ := hw
  rw [hr]
  have hp_this := hn_this
  have hF := hF.tr (hfr.wide (by omega) (by omega))
  cases hf
  exact hret hM dX13_addMove_17 rfl ⟨rfl, hp_this, hF⟩
def f_X13_empties_L25 (x1 : Int32) : Nat → (Int32) → (Nat → Int32) → Option (Nat → Int32)
  | 0, _, _ => none
  | n + 1, x3, v => if 20 ≤ x3 then some v else (f_X13_at x1 x3).bind fun q37 => mm_g (mm_ck q37 238) (f_X13_empties_L25 x1 n (x3 + 1) (upd v q37.toNatClampNeg 0))
def f_X13_empties (K : Nat) (thrown : Int32) (v : Nat → Int32) (x1 : Int32) : Option (Int32 × Int32 × (Nat → Int32)) := (f_X13_isPlan x1).bind fun q1 => if q1 = 0 then (f_X13_fail 1).bind fun q9 => some (q9.1, q9.2, v) else mm_g (mm_ck (104 + x1) 238) ((f_X13_empties_L25 x1 K 0 v).bind fun q25 => mm_g (mm_ck (104 + x1) 238) (some ((v (104 + x1).toNatClampNeg), thrown, (upd q25 ((104 + x1).toNatClampNeg) 0))))
set_option maxHeartbeats 4000000 in
set_option maxRecDepth 100000 in
theorem c_X13_empties (l : Launch) {G : mm_G} {K : Nat} {w : va_W} {sz : Nat} {b : Nat} {thrown : Int32} {changes : Int32} {errorAt : Int32} {failedAt : Int32} {isSaved : Int32} {v : Nat → Int32} {before : Nat → Int32} {saved : Nat → Int32} {past : Nat → Int32} {far : Nat → Int32} {scratch : Nat → Int32} {best : Nat → Int32} {thenX : Int32} {thenY : Int32} {thenMet : Int32} {text : Nat → Int32} {line : Nat → Int32} {isLeft : Nat → Int32} {words : Nat → Int32} {wordAt : Nat → Int32} {textN : Int32} {hereP : Int32} {endP : Int32} {lineN : Int32} {isWrong : Int32} {isDoing : Int32} {x1 : Int32} {X : Int32 × Int32 × (Nat → Int32)} (hf : f_X13_empties K thrown v x1 = some X) (hp_this : At13 G w b thrown changes errorAt failedAt isSaved v before saved past far scratch best thenX thenY thenMet text line isLeft words wordAt textN hereP endP lineN isWrong isDoing) : Met l yX13_empties (Cond.code yX13_empties cX13_empties 4 (some .int) :: gAll) ({ frames := 2, cells := 0, slots := 0, locals := 42 }) (va_Pc [.ref b, .int x1] (mm_Pre G w sz)) (mm_Qi G w sz (fun r w' => r = X.1 ∧ At13 G w' b X.2.1 changes errorAt failedAt isSaved X.2.2 before saved past far scratch best thenX thenY thenMet text line isLeft words wordAt textN hereP endP lineN isWrong isDoing ∧ mm_fr w w' b (b + 13))) 0 0 (va_A w sz) := by
  refine mm_headI [.ref b, .int x1] (by decide +kernel) rfl (Nat.le_of_ble_eq_true rfl) ?_
  intro p e s m args below meth c A Q hsz hC hM hret ls hl
  have hx := hC.1.1
  have hb := hC.1.2.1
  have hl : lv_has ls 4 [(0, .ref b), (1, .int x1)] := hl
  have hF : mm_fr w w b (b + 13) := mm_fr.rf
  rw [f_X13_empties] at hf
  refine lv_iload_n hx hb dX13_empties_0 rfl (lv_at hl 1 rfl) ?_
  obtain ⟨q1, hq1, hf⟩ := mm_bd hf
  refine mm_Si (rest := []) hC hM (c_X13_isPlan l hq1) q8_28 q1_12 ykX13_isPlan q8_26 q8_27 ⟨rfl, rfl⟩ ⟨Nat.le_of_ble_eq_true rfl, Nat.le_of_ble_eq_true rfl⟩ rfl hl.1 rfl (Nat.le_of_ble_eq_true rfl) dX13_empties_1 ⟨Nat.le_of_ble_eq_true rfl, Nat.le_of_ble_eq_true rfl⟩ (fun r w1 H locs hM hw => ?_)
  obtain ⟨hr, hw⟩ := hw
  rw [hr]
  rw [hw] at hM
  refine lv_if_ne (tgt := 13) hx hb dX13_empties_4 (by decide) (fun hcd => ?_) (fun hcd => ?_)
  · rw [if_neg hcd] at hf
    refine lv_aload_n hx hb dX13_empties_13 rfl (lv_at hl 0 rfl) ?_
    refine mm_get hC hM (k := 5) hp_this.1 rfl inAX13 (by decide) q7_10 rfl dX13_empties_14 ?_
    refine lv_bipush (v := 104) hx hb dX13_empties_17 (by decide) ?_
    refine lv_iload_n hx hb dX13_empties_19 rfl (lv_at hl 1 rfl) ?_
    refine lv_iadd hx hb dX13_empties_20 ?_
    obtain ⟨hg21, hf⟩ := mm_gd hf
    refine mm_iald hC hM (hp_this.2.1) hg21 dX13_empties_21 ?_
    refine lv_istore_n (lv' := [(2, .int (v (104 + x1).toNatClampNeg)), (0, .ref b), (1, .int x1)]) hx hb dX13_empties_22 rfl hl (by decide) rfl (fun ls hl => ?_)
    refine lv_iconst (v := 0) hx hb dX13_empties_23 (by decide) ?_
    refine lv_istore_n (lv' := [(3, .int 0), (2, .int (v (104 + x1).toNatClampNeg)), (0, .ref b), (1, .int x1)]) hx hb dX13_empties_24 rfl hl (by decide) rfl (fun ls hl => ?_)
    have L25 : ∀ (n : Nat) (L25_x3 : Int32) (L25_v : Nat → Int32) (X : Nat → Int32), f_X13_empties_L25 x1 n L25_x3 L25_v = some X → ∀ (L25_w : va_W) (H : Heap) (locs : List Loc), mm_S G A s.heap L25_w H locs → At13 G L25_w b thrown changes errorAt failedAt isSaved L25_v before saved past far scratch best thenX thenY thenMet text line isLeft words wordAt textN hereP endP lineN isWrong isDoing → mm_fr w L25_w b (b + 13) → ∀ (ls : Array Slot), lv_has ls 4 [(0, .ref b), (1, .int x1), (2, .int (v (104 + x1).toNatClampNeg)), (3, .int L25_x3)] → (∀ (w9 : va_W) (H : Heap) (locs : List Loc), mm_S G A s.heap w9 H locs → At13 G w9 b thrown changes errorAt failedAt isSaved X before saved past far scratch best thenX thenY thenMet text line isLeft words wordAt textN hereP endP lineN isWrong isDoing → mm_fr w w9 b (b + 13) → ∀ (ls : Array Slot), lv_has ls 4 [(0, .ref b), (1, .int x1), (2, .int (v (104 + x1).toNatClampNeg))] → W p l e ({ frames := 2, cells := 0, slots := 0, locals := 42 } : Room) s m args below meth c H locs 0 0 Q (F0 m 48 ls [])) → W p l e ({ frames := 2, cells := 0, slots := 0, locals := 42 } : Room) s m args below meth c H locs 0 0 Q (F0 m 25 ls []) := by
      intro n
      induction n with
      | zero => intro L25_x3 L25_v X hf; cases hf
      | succ n ih =>
        intro L25_x3 L25_v X hf L25_w H locs hM hp_this hF ls hl hk
        rw [f_X13_empties_L25] at hf
        refine lv_iload_n hx hb dX13_empties_25 rfl (lv_at hl 3 rfl) ?_
        refine lv_bipush (v := 20) hx hb dX13_empties_26 (by decide) ?_
        refine lv_icmp_ge (tgt := 48) hx hb dX13_empties_28 (by decide) (fun hcd => ?_) (fun hcd => ?_)
        · rw [if_pos hcd] at hf
          cases hf
          exact hk _ _ _ hM hp_this hF _ (lv_sub hl [0, 1, 2] rfl)
        · rw [if_neg hcd] at hf
          refine lv_aload_n hx hb dX13_empties_31 rfl (lv_at hl 0 rfl) ?_
          refine mm_get hC hM (k := 5) hp_this.1 rfl inAX13 (by decide) q7_10 rfl dX13_empties_32 ?_
          refine lv_iload_n hx hb dX13_empties_35 rfl (lv_at hl 1 rfl) ?_
          refine lv_iload_n hx hb dX13_empties_36 rfl (lv_at hl 3 rfl) ?_
          obtain ⟨q37, hq37, hf⟩ := mm_bd hf
          refine mm_Si (rest := [.ref (b + 1)]) hC hM (c_X13_at l hq37) q8_31 q1_12 ykX13_at q8_29 q8_30 ⟨rfl, rfl⟩ ⟨Nat.le_of_ble_eq_true rfl, Nat.le_of_ble_eq_true rfl⟩ rfl hl.1 rfl (Nat.le_of_ble_eq_true rfl) dX13_empties_37 ⟨Nat.le_of_ble_eq_true rfl, Nat.le_of_ble_eq_true rfl⟩ (fun r w37 H locs hM hw => ?_)
          obtain ⟨hr, hw⟩ := hw
          rw [hr]
          rw [hw] at hM
          refine lv_iconst (v := 0) hx hb dX13_empties_40 (by decide) ?_
          obtain ⟨hg41, hf⟩ := mm_gd hf
          refine mm_iast hC hM (hp_this.2.1) hg41 dX13_empties_41 (fun w41 H locs hM hm => ?_)
          have hp_this : At13 G w41 b thrown changes errorAt failedAt isSaved (upd L25_v q37.toNatClampNeg 0) before saved past far scratch best thenX thenY thenMet text line isLeft words wordAt textN hereP endP lineN isWrong isDoing := ⟨hm.keep (hp_this.1) (by omega), hm.1, hm.keep (hp_this.2.2.1) (by omega), hm.keep (hp_this.2.2.2.1) (by omega), hm.keep (hp_this.2.2.2.2.1) (by omega), hm.keep (hp_this.2.2.2.2.2.1) (by omega), hm.keep (hp_this.2.2.2.2.2.2.1) (by omega), hm.keep (hp_this.2.2.2.2.2.2.2.1) (by omega), hm.keep (hp_this.2.2.2.2.2.2.2.2.1) (by omega), hm.keep (hp_this.2.2.2.2.2.2.2.2.2.1) (by omega), hm.keep (hp_this.2.2.2.2.2.2.2.2.2.2.1) (by omega), hm.keep (hp_this.2.2.2.2.2.2.2.2.2.2.2.1) (by omega), hm.keep (hp_this.2.2.2.2.2.2.2.2.2.2.2.2) (by omega)⟩
          have hF := hF.tr (hm.fr (by omega) (by omega))
          refine lv_iinc (v := (L25_x3 + 1)) (lv' := [(3, .int (L25_x3 + 1)), (0, .ref b), (1, .int x1), (2, .int (v (104 + x1).toNatClampNeg))]) hx hb dX13_empties_42 hl (k := 3) rfl rfl (by decide) rfl (fun ls hl => ?_)
          refine lv_goto (tgt := 25) hx hb dX13_empties_45 (by decide) ?_
          exact ih _ _ _ hf _ _ _ hM hp_this hF _ (lv_sub hl [1, 2, 3, 0] rfl) hk
    obtain ⟨q25, hq25, hf⟩ := mm_bd hf
    refine L25 K _ _ _ hq25 _ _ _ hM hp_this hF _ (lv_sub hl [2, 3, 1, 0] rfl) (fun w25 H locs hM hp_this hF ls hl => ?_)
    refine lv_aload_n hx hb dX13_empties_48 rfl (lv_at hl 0 rfl) ?_
    refine mm_get hC hM (k := 5) hp_this.1 rfl inAX13 (by decide) q7_10 rfl dX13_empties_49 ?_
    refine lv_bipush (v := 104) hx hb dX13_empties_52 (by decide) ?_
    refine lv_iload_n hx hb dX13_empties_54 rfl (lv_at hl 1 rfl) ?_
    refine lv_iadd hx hb dX13_empties_55 ?_
    refine lv_iconst (v := 0) hx hb dX13_empties_56 (by decide) ?_
    obtain ⟨hg57, hf⟩ := mm_gd hf
    refine mm_iast hC hM (hp_this.2.1) hg57 dX13_empties_57 (fun w57 H locs hM hm => ?_)
    have hp_this : At13 G w57 b thrown changes errorAt failedAt isSaved (upd q25 ((104 + x1).toNatClampNeg) 0) before saved past far scratch best thenX thenY thenMet text line isLeft words wordAt textN hereP endP lineN isWrong isDoing := ⟨hm.keep (hp_this.1) (by omega), hm.1, hm.keep (hp_this.2.2.1) (by omega), hm.keep (hp_this.2.2.2.1) (by omega), hm.keep (hp_this.2.2.2.2.1) (by omega), hm.keep (hp_this.2.2.2.2.2.1) (by omega), hm.keep (hp_this.2.2.2.2.2.2.1) (by omega), hm.keep (hp_this.2.2.2.2.2.2.2.1) (by omega), hm.keep (hp_this.2.2.2.2.2.2.2.2.1) (by omega), hm.keep (hp_this.2.2.2.2.2.2.2.2.2.1) (by omega), hm.keep (hp_this.2.2.2.2.2.2.2.2.2.2.1) (by omega), hm.keep (hp_this.2.2.2.2.2.2.2.2.2.2.2.1) (by omega), hm.keep (hp_this.2.2.2.2.2.2.2.2.2.2.2.2) (by omega)⟩
    have hF := hF.tr (hm.fr (by omega) (by omega))
    refine lv_iload_n hx hb dX13_empties_58 rfl (lv_at hl 2 rfl) ?_
    cases hf
    exact hret hM dX13_empties_59 rfl ⟨rfl, hp_this, hF⟩
  · rw [if_pos hcd] at hf
    refine lv_aload_n hx hb dX13_empties_7 rfl (lv_at hl 0 rfl) ?_
    refine lv_iconst (v := 1) hx hb dX13_empties_8 (by decide) ?_
    obtain ⟨q9, hq9, hf⟩ := mm_bd hf
    refine mm_Vi (rest := []) hC hM (c_X13_fail l hq9 hp_this) q7_112 q1_12 ykX13_fail q7_109 q7_111 qp_bcc4f98e hp_this.1 rfl ⟨rfl, rfl⟩ ⟨Nat.le_of_ble_eq_true rfl, Nat.le_of_ble_eq_true rfl⟩ rfl hl.1 rfl (Nat.le_of_ble_eq_true rfl) dX13_empties_9 ⟨Nat.le_of_ble_eq_true rfl, Nat.le_of_ble_eq_true rfl⟩ (fun r w9 H locs hM hw => ?_)
    obtain ⟨hr, hn_this, hfr⟩ := hw
    rw [hr]
    have hp_this := hn_this
    have hF := hF.tr (hfr.wide (by omega) (by omega))
    cases hf
    exact hret hM dX13_empties_12 rfl ⟨rfl, hp_this, hF⟩
def f_X13_clearPlan (K : Nat) (changes : Int32) (v : Nat → Int32) (before : Nat → Int32) (past : Nat → Int32) (x1 : Int32) : Option (Int32 × Int32 × Int32 × (Nat → Int32) × (Nat → Int32) × (Nat → Int32)) := (f_X13_begins K v before).bind fun q1 => (f_X13_empties K q1.1 v x1).bind fun q7 => (f_X13_ends K q7.2.1 changes q7.2.2 q1.2 past q7.1).bind fun q10 => some (q10.1, q7.2.1, q10.2.1, q10.2.2.1, q1.2, q10.2.2.2)
set_option maxHeartbeats 4000000 in
set_option maxRecDepth 100000 in
theorem c_X13_clearPlan (l : Launch) {G : mm_G} {K : Nat} {w : va_W} {sz : Nat} {b : Nat} {thrown : Int32} {changes : Int32} {errorAt : Int32} {failedAt : Int32} {isSaved : Int32} {v : Nat → Int32} {before : Nat → Int32} {saved : Nat → Int32} {past : Nat → Int32} {far : Nat → Int32} {scratch : Nat → Int32} {best : Nat → Int32} {thenX : Int32} {thenY : Int32} {thenMet : Int32} {text : Nat → Int32} {line : Nat → Int32} {isLeft : Nat → Int32} {words : Nat → Int32} {wordAt : Nat → Int32} {textN : Int32} {hereP : Int32} {endP : Int32} {lineN : Int32} {isWrong : Int32} {isDoing : Int32} {x1 : Int32} {X : Int32 × Int32 × Int32 × (Nat → Int32) × (Nat → Int32) × (Nat → Int32)} (hf : f_X13_clearPlan K changes v before past x1 = some X) (hp_this : At13 G w b thrown changes errorAt failedAt isSaved v before saved past far scratch best thenX thenY thenMet text line isLeft words wordAt textN hereP endP lineN isWrong isDoing) : Met l yX13_clearPlan (Cond.code yX13_clearPlan cX13_clearPlan 2 (some .int) :: gAll) ({ frames := 3, cells := 0, slots := 0, locals := 65 }) (va_Pc [.ref b, .int x1] (mm_Pre G w sz)) (mm_Qi G w sz (fun r w' => r = X.1 ∧ At13 G w' b X.2.1 X.2.2.1 errorAt failedAt isSaved X.2.2.2.1 X.2.2.2.2.1 saved X.2.2.2.2.2 far scratch best thenX thenY thenMet text line isLeft words wordAt textN hereP endP lineN isWrong isDoing ∧ mm_fr w w' b (b + 13))) 0 0 (va_A w sz) := by
  refine mm_headI [.ref b, .int x1] (by decide +kernel) rfl (Nat.le_of_ble_eq_true rfl) ?_
  intro p e s m args below meth c A Q hsz hC hM hret ls hl
  have hx := hC.1.1
  have hb := hC.1.2.1
  have hl : lv_has ls 2 [(0, .ref b), (1, .int x1)] := hl
  have hF : mm_fr w w b (b + 13) := mm_fr.rf
  rw [f_X13_clearPlan] at hf
  refine lv_aload_n hx hb dX13_clearPlan_0 rfl (lv_at hl 0 rfl) ?_
  obtain ⟨q1, hq1, hf⟩ := mm_bd hf
  refine mm_Vv (rest := []) hC hM (c_X13_begins l hq1 hp_this) q7_95 q1_12 ykX13_begins q7_92 q7_94 qp_0e68fe50 hp_this.1 rfl ⟨rfl, rfl⟩ ⟨Nat.le_of_ble_eq_true rfl, Nat.le_of_ble_eq_true rfl⟩ rfl hl.1 rfl (Nat.le_of_ble_eq_true rfl) dX13_clearPlan_1 ⟨Nat.le_of_ble_eq_true rfl, Nat.le_of_ble_eq_true rfl⟩ (fun w1 H locs hM hw => ?_)
  obtain ⟨hn_this, hfr⟩ := hw
  have hp_this := hn_this
  have hF := hF.tr (hfr.wide (by omega) (by omega))
  refine lv_aload_n hx hb dX13_clearPlan_4 rfl (lv_at hl 0 rfl) ?_
  refine lv_aload_n hx hb dX13_clearPlan_5 rfl (lv_at hl 0 rfl) ?_
  refine lv_iload_n hx hb dX13_clearPlan_6 rfl (lv_at hl 1 rfl) ?_
  obtain ⟨q7, hq7, hf⟩ := mm_bd hf
  refine mm_Vi (rest := [.ref b]) hC hM (c_X13_empties l hq7 hp_this) q8_39 q1_12 ykX13_empties q8_36 q8_38 qp_8f954e19 hp_this.1 rfl ⟨rfl, rfl⟩ ⟨Nat.le_of_ble_eq_true rfl, Nat.le_of_ble_eq_true rfl⟩ rfl hl.1 rfl (Nat.le_of_ble_eq_true rfl) dX13_clearPlan_7 ⟨Nat.le_of_ble_eq_true rfl, Nat.le_of_ble_eq_true rfl⟩ (fun r w7 H locs hM hw => ?_)
  obtain ⟨hr, hn_this, hfr⟩ := hw
  rw [hr]
  have hp_this := hn_this
  have hF := hF.tr (hfr.wide (by omega) (by omega))
  obtain ⟨q10, hq10, hf⟩ := mm_bd hf
  refine mm_Vi (rest := []) hC hM (c_X13_ends l hq10 hp_this) q7_133 q1_12 ykX13_ends q7_130 q7_132 qp_952383d2 hp_this.1 rfl ⟨rfl, rfl⟩ ⟨Nat.le_of_ble_eq_true rfl, Nat.le_of_ble_eq_true rfl⟩ rfl hl.1 rfl (Nat.le_of_ble_eq_true rfl) dX13_clearPlan_10 ⟨Nat.le_of_ble_eq_true rfl, Nat.le_of_ble_eq_true rfl⟩ (fun r w10 H locs hM hw => ?_)
  obtain ⟨hr, hn_this, hfr⟩ := hw
  rw [hr]
  have hp_this := hn_this
  have hF := hF.tr (hfr.wide (by omega) (by omega))
  cases hf
  exact hret hM dX13_clearPlan_13 rfl ⟨rfl, hp_this, hF⟩
def f_X13_becomes_L2 (scratch : Nat → Int32) (x1 : Int32) (x2 : Int32) : Nat → (Int32) → (Nat → Int32) → Option (Nat → Int32)
  | 0, _, _ => none
  | n + 1, x3, v => if 20 ≤ x3 then some v else (f_X13_at x1 x3).bind fun q14 => if x2 ≤ x3 then mm_g (mm_ck q14 238) (f_X13_becomes_L2 scratch x1 x2 n (x3 + 1) (upd v q14.toNatClampNeg 0)) else mm_g (mm_ck x3 60) (mm_g (mm_ck q14 238) (f_X13_becomes_L2 scratch x1 x2 n (x3 + 1) (upd v q14.toNatClampNeg (scratch x3.toNatClampNeg))))
def f_X13_becomes (K : Nat) (v : Nat → Int32) (scratch : Nat → Int32) (x1 : Int32) (x2 : Int32) : Option (Int32 × (Nat → Int32)) := (f_X13_becomes_L2 scratch x1 x2 K 0 v).bind fun q2 => mm_g (mm_ck (104 + x1) 238) (some (x2, (upd q2 ((104 + x1).toNatClampNeg) x2)))
set_option maxHeartbeats 4000000 in
set_option maxRecDepth 100000 in
theorem c_X13_becomes (l : Launch) {G : mm_G} {K : Nat} {w : va_W} {sz : Nat} {b : Nat} {thrown : Int32} {changes : Int32} {errorAt : Int32} {failedAt : Int32} {isSaved : Int32} {v : Nat → Int32} {before : Nat → Int32} {saved : Nat → Int32} {past : Nat → Int32} {far : Nat → Int32} {scratch : Nat → Int32} {best : Nat → Int32} {thenX : Int32} {thenY : Int32} {thenMet : Int32} {text : Nat → Int32} {line : Nat → Int32} {isLeft : Nat → Int32} {words : Nat → Int32} {wordAt : Nat → Int32} {textN : Int32} {hereP : Int32} {endP : Int32} {lineN : Int32} {isWrong : Int32} {isDoing : Int32} {x1 : Int32} {x2 : Int32} {X : Int32 × (Nat → Int32)} (hf : f_X13_becomes K v scratch x1 x2 = some X) (hp_this : At13 G w b thrown changes errorAt failedAt isSaved v before saved past far scratch best thenX thenY thenMet text line isLeft words wordAt textN hereP endP lineN isWrong isDoing) : Met l yX13_becomes (Cond.code yX13_becomes cX13_becomes 4 (some .int) :: gAll) ({ frames := 1, cells := 0, slots := 0, locals := 21 }) (va_Pc [.ref b, .int x1, .int x2] (mm_Pre G w sz)) (mm_Qi G w sz (fun r w' => r = X.1 ∧ At13 G w' b thrown changes errorAt failedAt isSaved X.2 before saved past far scratch best thenX thenY thenMet text line isLeft words wordAt textN hereP endP lineN isWrong isDoing ∧ mm_fr w w' b (b + 13))) 0 0 (va_A w sz) := by
  refine mm_headI [.ref b, .int x1, .int x2] (by decide +kernel) rfl (Nat.le_of_ble_eq_true rfl) ?_
  intro p e s m args below meth c A Q hsz hC hM hret ls hl
  have hx := hC.1.1
  have hb := hC.1.2.1
  have hl : lv_has ls 4 [(0, .ref b), (1, .int x1), (2, .int x2)] := hl
  have hF : mm_fr w w b (b + 13) := mm_fr.rf
  rw [f_X13_becomes] at hf
  refine lv_iconst (v := 0) hx hb dX13_becomes_0 (by decide) ?_
  refine lv_istore_n (lv' := [(3, .int 0), (0, .ref b), (1, .int x1), (2, .int x2)]) hx hb dX13_becomes_1 rfl hl (by decide) rfl (fun ls hl => ?_)
  have L2 : ∀ (n : Nat) (L2_x3 : Int32) (L2_v : Nat → Int32) (X : Nat → Int32), f_X13_becomes_L2 scratch x1 x2 n L2_x3 L2_v = some X → ∀ (L2_w : va_W) (H : Heap) (locs : List Loc), mm_S G A s.heap L2_w H locs → At13 G L2_w b thrown changes errorAt failedAt isSaved L2_v before saved past far scratch best thenX thenY thenMet text line isLeft words wordAt textN hereP endP lineN isWrong isDoing → mm_fr w L2_w b (b + 13) → ∀ (ls : Array Slot), lv_has ls 4 [(0, .ref b), (1, .int x1), (2, .int x2), (3, .int L2_x3)] → (∀ (w9 : va_W) (H : Heap) (locs : List Loc), mm_S G A s.heap w9 H locs → At13 G w9 b thrown changes errorAt failedAt isSaved X before saved past far scratch best thenX thenY thenMet text line isLeft words wordAt textN hereP endP lineN isWrong isDoing → mm_fr w w9 b (b + 13) → ∀ (ls : Array Slot), lv_has ls 4 [(0, .ref b), (1, .int x1), (2, .int x2)] → W p l e ({ frames := 1, cells := 0, slots := 0, locals := 21 } : Room) s m args below meth c H locs 0 0 Q (F0 m 39 ls [])) → W p l e ({ frames := 1, cells := 0, slots := 0, locals := 21 } : Room) s m args below meth c H locs 0 0 Q (F0 m 2 ls []) := by
    intro n
    induction n with
    | zero => intro L2_x3 L2_v X hf; cases hf
    | succ n ih =>
      intro L2_x3 L2_v X hf L2_w H locs hM hp_this hF ls hl hk
      rw [f_X13_becomes_L2] at hf
      refine lv_iload_n hx hb dX13_becomes_2 rfl (lv_at hl 3 rfl) ?_
      refine lv_bipush (v := 20) hx hb dX13_becomes_3 (by decide) ?_
      refine lv_icmp_ge (tgt := 39) hx hb dX13_becomes_5 (by decide) (fun hcd => ?_) (fun hcd => ?_)
      · rw [if_pos hcd] at hf
        cases hf
        exact hk _ _ _ hM hp_this hF _ (lv_sub hl [0, 1, 2] rfl)
      · rw [if_neg hcd] at hf
        refine lv_aload_n hx hb dX13_becomes_8 rfl (lv_at hl 0 rfl) ?_
        refine mm_get hC hM (k := 5) hp_this.1 rfl inAX13 (by decide) q7_10 rfl dX13_becomes_9 ?_
        refine lv_iload_n hx hb dX13_becomes_12 rfl (lv_at hl 1 rfl) ?_
        refine lv_iload_n hx hb dX13_becomes_13 rfl (lv_at hl 3 rfl) ?_
        obtain ⟨q14, hq14, hf⟩ := mm_bd hf
        refine mm_Si (rest := [.ref (b + 1)]) hC hM (c_X13_at l hq14) q8_31 q1_12 ykX13_at q8_29 q8_30 ⟨rfl, rfl⟩ ⟨Nat.le_of_ble_eq_true rfl, Nat.le_of_ble_eq_true rfl⟩ rfl hl.1 rfl (Nat.le_of_ble_eq_true rfl) dX13_becomes_14 ⟨Nat.le_of_ble_eq_true rfl, Nat.le_of_ble_eq_true rfl⟩ (fun r w14 H locs hM hw => ?_)
        obtain ⟨hr, hw⟩ := hw
        rw [hr]
        rw [hw] at hM
        refine lv_iload_n hx hb dX13_becomes_17 rfl (lv_at hl 3 rfl) ?_
        refine lv_iload_n hx hb dX13_becomes_18 rfl (lv_at hl 2 rfl) ?_
        refine lv_icmp_ge (tgt := 31) hx hb dX13_becomes_19 (by decide) (fun hcd => ?_) (fun hcd => ?_)
        · rw [if_pos hcd] at hf
          refine lv_iconst (v := 0) hx hb dX13_becomes_31 (by decide) ?_
          obtain ⟨hg32, hf⟩ := mm_gd hf
          refine mm_iast hC hM (hp_this.2.1) hg32 dX13_becomes_32 (fun w32 H locs hM hm => ?_)
          have hp_this : At13 G w32 b thrown changes errorAt failedAt isSaved (upd L2_v q14.toNatClampNeg 0) before saved past far scratch best thenX thenY thenMet text line isLeft words wordAt textN hereP endP lineN isWrong isDoing := ⟨hm.keep (hp_this.1) (by omega), hm.1, hm.keep (hp_this.2.2.1) (by omega), hm.keep (hp_this.2.2.2.1) (by omega), hm.keep (hp_this.2.2.2.2.1) (by omega), hm.keep (hp_this.2.2.2.2.2.1) (by omega), hm.keep (hp_this.2.2.2.2.2.2.1) (by omega), hm.keep (hp_this.2.2.2.2.2.2.2.1) (by omega), hm.keep (hp_this.2.2.2.2.2.2.2.2.1) (by omega), hm.keep (hp_this.2.2.2.2.2.2.2.2.2.1) (by omega), hm.keep (hp_this.2.2.2.2.2.2.2.2.2.2.1) (by omega), hm.keep (hp_this.2.2.2.2.2.2.2.2.2.2.2.1) (by omega), hm.keep (hp_this.2.2.2.2.2.2.2.2.2.2.2.2) (by omega)⟩
          have hF := hF.tr (hm.fr (by omega) (by omega))
          refine lv_iinc (v := (L2_x3 + 1)) (lv' := [(3, .int (L2_x3 + 1)), (0, .ref b), (1, .int x1), (2, .int x2)]) hx hb dX13_becomes_33 hl (k := 3) rfl rfl (by decide) rfl (fun ls hl => ?_)
          refine lv_goto (tgt := 2) hx hb dX13_becomes_36 (by decide) ?_
          exact ih _ _ _ hf _ _ _ hM hp_this hF _ (lv_sub hl [1, 2, 3, 0] rfl) hk
        · rw [if_neg hcd] at hf
          refine lv_aload_n hx hb dX13_becomes_22 rfl (lv_at hl 0 rfl) ?_
          refine mm_get hC hM (k := 10) hp_this.1 rfl inAX13 (by decide) q7_15 rfl dX13_becomes_23 ?_
          refine lv_iload_n hx hb dX13_becomes_26 rfl (lv_at hl 3 rfl) ?_
          obtain ⟨hg27, hf⟩ := mm_gd hf
          refine mm_iald hC hM (hp_this.2.2.2.2.2.2.1) hg27 dX13_becomes_27 ?_
          refine lv_goto (tgt := 32) hx hb dX13_becomes_28 (by decide) ?_
          obtain ⟨hg32, hf⟩ := mm_gd hf
          refine mm_iast hC hM (hp_this.2.1) hg32 dX13_becomes_32 (fun w32 H locs hM hm => ?_)
          have hp_this : At13 G w32 b thrown changes errorAt failedAt isSaved (upd L2_v q14.toNatClampNeg (scratch L2_x3.toNatClampNeg)) before saved past far scratch best thenX thenY thenMet text line isLeft words wordAt textN hereP endP lineN isWrong isDoing := ⟨hm.keep (hp_this.1) (by omega), hm.1, hm.keep (hp_this.2.2.1) (by omega), hm.keep (hp_this.2.2.2.1) (by omega), hm.keep (hp_this.2.2.2.2.1) (by omega), hm.keep (hp_this.2.2.2.2.2.1) (by omega), hm.keep (hp_this.2.2.2.2.2.2.1) (by omega), hm.keep (hp_this.2.2.2.2.2.2.2.1) (by omega), hm.keep (hp_this.2.2.2.2.2.2.2.2.1) (by omega), hm.keep (hp_this.2.2.2.2.2.2.2.2.2.1) (by omega), hm.keep (hp_this.2.2.2.2.2.2.2.2.2.2.1) (by omega), hm.keep (hp_this.2.2.2.2.2.2.2.2.2.2.2.1) (by omega), hm.keep (hp_this.2.2.2.2.2.2.2.2.2.2.2.2) (by omega)⟩
          have hF := hF.tr (hm.fr (by omega) (by omega))
          refine lv_iinc (v := (L2_x3 + 1)) (lv' := [(3, .int (L2_x3 + 1)), (0, .ref b), (1, .int x1), (2, .int x2)]) hx hb dX13_becomes_33 hl (k := 3) rfl rfl (by decide) rfl (fun ls hl => ?_)
          refine lv_goto (tgt := 2) hx hb dX13_becomes_36 (by decide) ?_
          exact ih _ _ _ hf _ _ _ hM hp_this hF _ (lv_sub hl [1, 2, 3, 0] rfl) hk
  obtain ⟨q2, hq2, hf⟩ := mm_bd hf
  refine L2 K _ _ _ hq2 _ _ _ hM hp_this hF _ (lv_sub hl [1, 2, 3, 0] rfl) (fun w2 H locs hM hp_this hF ls hl => ?_)
  refine lv_aload_n hx hb dX13_becomes_39 rfl (lv_at hl 0 rfl) ?_
  refine mm_get hC hM (k := 5) hp_this.1 rfl inAX13 (by decide) q7_10 rfl dX13_becomes_40 ?_
  refine lv_bipush (v := 104) hx hb dX13_becomes_43 (by decide) ?_
  refine lv_iload_n hx hb dX13_becomes_45 rfl (lv_at hl 1 rfl) ?_
  refine lv_iadd hx hb dX13_becomes_46 ?_
  refine lv_iload_n hx hb dX13_becomes_47 rfl (lv_at hl 2 rfl) ?_
  obtain ⟨hg48, hf⟩ := mm_gd hf
  refine mm_iast hC hM (hp_this.2.1) hg48 dX13_becomes_48 (fun w48 H locs hM hm => ?_)
  have hp_this : At13 G w48 b thrown changes errorAt failedAt isSaved (upd q2 ((104 + x1).toNatClampNeg) x2) before saved past far scratch best thenX thenY thenMet text line isLeft words wordAt textN hereP endP lineN isWrong isDoing := ⟨hm.keep (hp_this.1) (by omega), hm.1, hm.keep (hp_this.2.2.1) (by omega), hm.keep (hp_this.2.2.2.1) (by omega), hm.keep (hp_this.2.2.2.2.1) (by omega), hm.keep (hp_this.2.2.2.2.2.1) (by omega), hm.keep (hp_this.2.2.2.2.2.2.1) (by omega), hm.keep (hp_this.2.2.2.2.2.2.2.1) (by omega), hm.keep (hp_this.2.2.2.2.2.2.2.2.1) (by omega), hm.keep (hp_this.2.2.2.2.2.2.2.2.2.1) (by omega), hm.keep (hp_this.2.2.2.2.2.2.2.2.2.2.1) (by omega), hm.keep (hp_this.2.2.2.2.2.2.2.2.2.2.2.1) (by omega), hm.keep (hp_this.2.2.2.2.2.2.2.2.2.2.2.2) (by omega)⟩
  have hF := hF.tr (hm.fr (by omega) (by omega))
  refine lv_iload_n hx hb dX13_becomes_49 rfl (lv_at hl 2 rfl) ?_
  cases hf
  exact hret hM dX13_becomes_50 rfl ⟨rfl, hp_this, hF⟩
def f_X13_mirrored (x0 : Int32) : Option (Int32) := if x0 ≤ 1 then some x0 else some (5 - x0)
set_option maxHeartbeats 4000000 in
set_option maxRecDepth 100000 in
theorem c_X13_mirrored (l : Launch) {G : mm_G} {w : va_W} {sz : Nat} {x0 : Int32} {X : Int32} (hf : f_X13_mirrored x0 = some X) : Met l yX13_mirrored (Cond.code yX13_mirrored cX13_mirrored 1 (some .int) :: gAll) ({ frames := 0, cells := 0, slots := 0, locals := 0 }) (va_Pc [.int x0] (mm_Pre G w sz)) (mm_Qi G w sz (fun r w' => r = X ∧ w' = w)) 0 0 (va_A w sz) := by
  refine mm_headI [.int x0] (by decide +kernel) rfl (Nat.le_of_ble_eq_true rfl) ?_
  intro p e s m args below meth c A Q hsz hC hM hret ls hl
  have hx := hC.1.1
  have hb := hC.1.2.1
  have hl : lv_has ls 1 [(0, .int x0)] := hl
  rw [f_X13_mirrored] at hf
  refine lv_iload_n hx hb dX13_mirrored_0 rfl (lv_at hl 0 rfl) ?_
  refine lv_iconst (v := 1) hx hb dX13_mirrored_1 (by decide) ?_
  refine lv_icmp_le (tgt := 11) hx hb dX13_mirrored_2 (by decide) (fun hcd => ?_) (fun hcd => ?_)
  · rw [if_pos hcd] at hf
    refine lv_iload_n hx hb dX13_mirrored_11 rfl (lv_at hl 0 rfl) ?_
    cases hf
    exact hret hM dX13_mirrored_12 rfl ⟨rfl, rfl⟩
  · rw [if_neg hcd] at hf
    refine lv_iconst (v := 5) hx hb dX13_mirrored_5 (by decide) ?_
    refine lv_iload_n hx hb dX13_mirrored_6 rfl (lv_at hl 0 rfl) ?_
    refine lv_isub hx hb dX13_mirrored_7 ?_
    refine lv_goto (tgt := 12) hx hb dX13_mirrored_8 (by decide) ?_
    cases hf
    exact hret hM dX13_mirrored_12 rfl ⟨rfl, rfl⟩
def f_X13_mirrors_L33 (v : Nat → Int32) (x1 : Int32) (x3 : Int32) : Nat → (Int32) → (Nat → Int32) → Option (Nat → Int32)
  | 0, _, _ => none
  | n + 1, x4, scratch => if x3 ≤ x4 then some scratch else (f_X13_at x1 x4).bind fun q52 => mm_g (mm_ck q52 238) ((f_X13_mirrored (v q52.toNatClampNeg)).bind fun q56 => mm_g (mm_ck x4 60) (f_X13_mirrors_L33 v x1 x3 n (x4 + 1) (upd scratch x4.toNatClampNeg q56)))
def f_X13_mirrors (K : Nat) (thrown : Int32) (v : Nat → Int32) (scratch : Nat → Int32) (x1 : Int32) (x2 : Int32) : Option (Int32 × Int32 × (Nat → Int32) × (Nat → Int32)) := (f_X13_isPlan x1).bind fun q1 => if q1 = 0 then (f_X13_fail 1).bind fun q16 => some (q16.1, q16.2, v, scratch) else (f_X13_isPlan x2).bind fun q8 => if q8 = 0 then (f_X13_fail 1).bind fun q16 => some (q16.1, q16.2, v, scratch) else mm_g (mm_ck (104 + x1) 238) ((f_X13_mirrors_L33 v x1 (v (104 + x1).toNatClampNeg) K 0 scratch).bind fun q33 => (f_X13_becomes K v q33 x2 (v (104 + x1).toNatClampNeg)).bind fun q69 => some (q69.1, thrown, q69.2, q33))
set_option maxHeartbeats 4000000 in
set_option maxRecDepth 100000 in
theorem c_X13_mirrors (l : Launch) {G : mm_G} {K : Nat} {w : va_W} {sz : Nat} {b : Nat} {thrown : Int32} {changes : Int32} {errorAt : Int32} {failedAt : Int32} {isSaved : Int32} {v : Nat → Int32} {before : Nat → Int32} {saved : Nat → Int32} {past : Nat → Int32} {far : Nat → Int32} {scratch : Nat → Int32} {best : Nat → Int32} {thenX : Int32} {thenY : Int32} {thenMet : Int32} {text : Nat → Int32} {line : Nat → Int32} {isLeft : Nat → Int32} {words : Nat → Int32} {wordAt : Nat → Int32} {textN : Int32} {hereP : Int32} {endP : Int32} {lineN : Int32} {isWrong : Int32} {isDoing : Int32} {x1 : Int32} {x2 : Int32} {X : Int32 × Int32 × (Nat → Int32) × (Nat → Int32)} (hf : f_X13_mirrors K thrown v scratch x1 x2 = some X) (hp_this : At13 G w b thrown changes errorAt failedAt isSaved v before saved past far scratch best thenX thenY thenMet text line isLeft words wordAt textN hereP endP lineN isWrong isDoing) : Met l yX13_mirrors (Cond.code yX13_mirrors cX13_mirrors 5 (some .int) :: gAll) ({ frames := 2, cells := 0, slots := 0, locals := 44 }) (va_Pc [.ref b, .int x1, .int x2] (mm_Pre G w sz)) (mm_Qi G w sz (fun r w' => r = X.1 ∧ At13 G w' b X.2.1 changes errorAt failedAt isSaved X.2.2.1 before saved past far X.2.2.2 best thenX thenY thenMet text line isLeft words wordAt textN hereP endP lineN isWrong isDoing ∧ mm_fr w w' b (b + 13))) 0 0 (va_A w sz) := by
  refine mm_headI [.ref b, .int x1, .int x2] (by decide +kernel) rfl (Nat.le_of_ble_eq_true rfl) ?_
  intro p e s m args below meth c A Q hsz hC hM hret ls hl
  have hx := hC.1.1
  have hb := hC.1.2.1
  have hl : lv_has ls 5 [(0, .ref b), (1, .int x1), (2, .int x2)] := hl
  have hF : mm_fr w w b (b + 13) := mm_fr.rf
  rw [f_X13_mirrors] at hf
  refine lv_iload_n hx hb dX13_mirrors_0 rfl (lv_at hl 1 rfl) ?_
  obtain ⟨q1, hq1, hf⟩ := mm_bd hf
  refine mm_Si (rest := []) hC hM (c_X13_isPlan l hq1) q8_28 q1_12 ykX13_isPlan q8_26 q8_27 ⟨rfl, rfl⟩ ⟨Nat.le_of_ble_eq_true rfl, Nat.le_of_ble_eq_true rfl⟩ rfl hl.1 rfl (Nat.le_of_ble_eq_true rfl) dX13_mirrors_1 ⟨Nat.le_of_ble_eq_true rfl, Nat.le_of_ble_eq_true rfl⟩ (fun r w1 H locs hM hw => ?_)
  obtain ⟨hr, hw⟩ := hw
  rw [hr]
  rw [hw] at hM
  refine lv_if_eq (tgt := 14) hx hb dX13_mirrors_4 (by decide) (fun hcd => ?_) (fun hcd => ?_)
  · rw [if_pos hcd] at hf
    refine lv_aload_n hx hb dX13_mirrors_14 rfl (lv_at hl 0 rfl) ?_
    refine lv_iconst (v := 1) hx hb dX13_mirrors_15 (by decide) ?_
    obtain ⟨q16, hq16, hf⟩ := mm_bd hf
    refine mm_Vi (rest := []) hC hM (c_X13_fail l hq16 hp_this) q7_112 q1_12 ykX13_fail q7_109 q7_111 qp_bcc4f98e hp_this.1 rfl ⟨rfl, rfl⟩ ⟨Nat.le_of_ble_eq_true rfl, Nat.le_of_ble_eq_true rfl⟩ rfl hl.1 rfl (Nat.le_of_ble_eq_true rfl) dX13_mirrors_16 ⟨Nat.le_of_ble_eq_true rfl, Nat.le_of_ble_eq_true rfl⟩ (fun r w16 H locs hM hw => ?_)
    obtain ⟨hr, hn_this, hfr⟩ := hw
    rw [hr]
    have hp_this := hn_this
    have hF := hF.tr (hfr.wide (by omega) (by omega))
    cases hf
    exact hret hM dX13_mirrors_19 rfl ⟨rfl, hp_this, hF⟩
  · rw [if_neg hcd] at hf
    refine lv_iload_n hx hb dX13_mirrors_7 rfl (lv_at hl 2 rfl) ?_
    obtain ⟨q8, hq8, hf⟩ := mm_bd hf
    refine mm_Si (rest := []) hC hM (c_X13_isPlan l hq8) q8_28 q1_12 ykX13_isPlan q8_26 q8_27 ⟨rfl, rfl⟩ ⟨Nat.le_of_ble_eq_true rfl, Nat.le_of_ble_eq_true rfl⟩ rfl hl.1 rfl (Nat.le_of_ble_eq_true rfl) dX13_mirrors_8 ⟨Nat.le_of_ble_eq_true rfl, Nat.le_of_ble_eq_true rfl⟩ (fun r w8 H locs hM hw => ?_)
    obtain ⟨hr, hw⟩ := hw
    rw [hr]
    rw [hw] at hM
    refine lv_if_ne (tgt := 20) hx hb dX13_mirrors_11 (by decide) (fun hcd => ?_) (fun hcd => ?_)
    · rw [if_neg hcd] at hf
      refine lv_aload_n hx hb dX13_mirrors_20 rfl (lv_at hl 0 rfl) ?_
      refine mm_get hC hM (k := 5) hp_this.1 rfl inAX13 (by decide) q7_10 rfl dX13_mirrors_21 ?_
      refine lv_bipush (v := 104) hx hb dX13_mirrors_24 (by decide) ?_
      refine lv_iload_n hx hb dX13_mirrors_26 rfl (lv_at hl 1 rfl) ?_
      refine lv_iadd hx hb dX13_mirrors_27 ?_
      obtain ⟨hg28, hf⟩ := mm_gd hf
      refine mm_iald hC hM (hp_this.2.1) hg28 dX13_mirrors_28 ?_
      refine lv_istore_n (lv' := [(3, .int (v (104 + x1).toNatClampNeg)), (0, .ref b), (1, .int x1), (2, .int x2)]) hx hb dX13_mirrors_29 rfl hl (by decide) rfl (fun ls hl => ?_)
      refine lv_iconst (v := 0) hx hb dX13_mirrors_30 (by decide) ?_
      refine lv_istore (lv' := [(4, .int 0), (3, .int (v (104 + x1).toNatClampNeg)), (0, .ref b), (1, .int x1), (2, .int x2)]) hx hb dX13_mirrors_31 hl (by decide) rfl (fun ls hl => ?_)
      have L33 : ∀ (n : Nat) (L33_x4 : Int32) (L33_scratch : Nat → Int32) (X : Nat → Int32), f_X13_mirrors_L33 v x1 (v (104 + x1).toNatClampNeg) n L33_x4 L33_scratch = some X → ∀ (L33_w : va_W) (H : Heap) (locs : List Loc), mm_S G A s.heap L33_w H locs → At13 G L33_w b thrown changes errorAt failedAt isSaved v before saved past far L33_scratch best thenX thenY thenMet text line isLeft words wordAt textN hereP endP lineN isWrong isDoing → mm_fr w L33_w b (b + 13) → ∀ (ls : Array Slot), lv_has ls 5 [(0, .ref b), (1, .int x1), (2, .int x2), (3, .int (v (104 + x1).toNatClampNeg)), (4, .int L33_x4)] → (∀ (w9 : va_W) (H : Heap) (locs : List Loc), mm_S G A s.heap w9 H locs → At13 G w9 b thrown changes errorAt failedAt isSaved v before saved past far X best thenX thenY thenMet text line isLeft words wordAt textN hereP endP lineN isWrong isDoing → mm_fr w w9 b (b + 13) → ∀ (ls : Array Slot), lv_has ls 5 [(0, .ref b), (2, .int x2), (3, .int (v (104 + x1).toNatClampNeg))] → W p l e ({ frames := 2, cells := 0, slots := 0, locals := 44 } : Room) s m args below meth c H locs 0 0 Q (F0 m 66 ls [])) → W p l e ({ frames := 2, cells := 0, slots := 0, locals := 44 } : Room) s m args below meth c H locs 0 0 Q (F0 m 33 ls []) := by
        intro n
        induction n with
        | zero => intro L33_x4 L33_scratch X hf; cases hf
        | succ n ih =>
          intro L33_x4 L33_scratch X hf L33_w H locs hM hp_this hF ls hl hk
          rw [f_X13_mirrors_L33] at hf
          refine lv_iload hx hb dX13_mirrors_33 (lv_at hl 4 rfl) ?_
          refine lv_iload_n hx hb dX13_mirrors_35 rfl (lv_at hl 3 rfl) ?_
          refine lv_icmp_ge (tgt := 66) hx hb dX13_mirrors_36 (by decide) (fun hcd => ?_) (fun hcd => ?_)
          · rw [if_pos hcd] at hf
            cases hf
            exact hk _ _ _ hM hp_this hF _ (lv_sub hl [0, 2, 3] rfl)
          · rw [if_neg hcd] at hf
            refine lv_aload_n hx hb dX13_mirrors_39 rfl (lv_at hl 0 rfl) ?_
            refine mm_get hC hM (k := 10) hp_this.1 rfl inAX13 (by decide) q7_15 rfl dX13_mirrors_40 ?_
            refine lv_iload hx hb dX13_mirrors_43 (lv_at hl 4 rfl) ?_
            refine lv_aload_n hx hb dX13_mirrors_45 rfl (lv_at hl 0 rfl) ?_
            refine mm_get hC hM (k := 5) hp_this.1 rfl inAX13 (by decide) q7_10 rfl dX13_mirrors_46 ?_
            refine lv_iload_n hx hb dX13_mirrors_49 rfl (lv_at hl 1 rfl) ?_
            refine lv_iload hx hb dX13_mirrors_50 (lv_at hl 4 rfl) ?_
            obtain ⟨q52, hq52, hf⟩ := mm_bd hf
            refine mm_Si (rest := [.ref (b + 1), .int L33_x4, .ref (b + 6)]) hC hM (c_X13_at l hq52) q8_31 q1_12 ykX13_at q8_29 q8_30 ⟨rfl, rfl⟩ ⟨Nat.le_of_ble_eq_true rfl, Nat.le_of_ble_eq_true rfl⟩ rfl hl.1 rfl (Nat.le_of_ble_eq_true rfl) dX13_mirrors_52 ⟨Nat.le_of_ble_eq_true rfl, Nat.le_of_ble_eq_true rfl⟩ (fun r w52 H locs hM hw => ?_)
            obtain ⟨hr, hw⟩ := hw
            rw [hr]
            rw [hw] at hM
            obtain ⟨hg55, hf⟩ := mm_gd hf
            refine mm_iald hC hM (hp_this.2.1) hg55 dX13_mirrors_55 ?_
            obtain ⟨q56, hq56, hf⟩ := mm_bd hf
            refine mm_Si (rest := [.int L33_x4, .ref (b + 6)]) hC hM (c_X13_mirrored l hq56) q8_50 q1_12 ykX13_mirrored q8_48 q8_49 ⟨rfl, rfl⟩ ⟨Nat.le_of_ble_eq_true rfl, Nat.le_of_ble_eq_true rfl⟩ rfl hl.1 rfl (Nat.le_of_ble_eq_true rfl) dX13_mirrors_56 ⟨Nat.le_of_ble_eq_true rfl, Nat.le_of_ble_eq_true rfl⟩ (fun r w56 H locs hM hw => ?_)
            obtain ⟨hr, hw⟩ := hw
            rw [hr]
            rw [hw] at hM
            obtain ⟨hg59, hf⟩ := mm_gd hf
            refine mm_iast hC hM (hp_this.2.2.2.2.2.2.1) hg59 dX13_mirrors_59 (fun w59 H locs hM hm => ?_)
            have hp_this : At13 G w59 b thrown changes errorAt failedAt isSaved v before saved past far (upd L33_scratch L33_x4.toNatClampNeg q56) best thenX thenY thenMet text line isLeft words wordAt textN hereP endP lineN isWrong isDoing := ⟨hm.keep (hp_this.1) (by omega), hm.keep (hp_this.2.1) (by omega), hm.keep (hp_this.2.2.1) (by omega), hm.keep (hp_this.2.2.2.1) (by omega), hm.keep (hp_this.2.2.2.2.1) (by omega), hm.keep (hp_this.2.2.2.2.2.1) (by omega), hm.1, hm.keep (hp_this.2.2.2.2.2.2.2.1) (by omega), hm.keep (hp_this.2.2.2.2.2.2.2.2.1) (by omega), hm.keep (hp_this.2.2.2.2.2.2.2.2.2.1) (by omega), hm.keep (hp_this.2.2.2.2.2.2.2.2.2.2.1) (by omega), hm.keep (hp_this.2.2.2.2.2.2.2.2.2.2.2.1) (by omega), hm.keep (hp_this.2.2.2.2.2.2.2.2.2.2.2.2) (by omega)⟩
            have hF := hF.tr (hm.fr (by omega) (by omega))
            refine lv_iinc (v := (L33_x4 + 1)) (lv' := [(4, .int (L33_x4 + 1)), (0, .ref b), (1, .int x1), (2, .int x2), (3, .int (v (104 + x1).toNatClampNeg))]) hx hb dX13_mirrors_60 hl (k := 4) rfl rfl (by decide) rfl (fun ls hl => ?_)
            refine lv_goto (tgt := 33) hx hb dX13_mirrors_63 (by decide) ?_
            exact ih _ _ _ hf _ _ _ hM hp_this hF _ (lv_sub hl [1, 2, 3, 4, 0] rfl) hk
      obtain ⟨q33, hq33, hf⟩ := mm_bd hf
      refine L33 K _ _ _ hq33 _ _ _ hM hp_this hF _ (lv_sub hl [2, 3, 4, 1, 0] rfl) (fun w33 H locs hM hp_this hF ls hl => ?_)
      refine lv_aload_n hx hb dX13_mirrors_66 rfl (lv_at hl 0 rfl) ?_
      refine lv_iload_n hx hb dX13_mirrors_67 rfl (lv_at hl 1 rfl) ?_
      refine lv_iload_n hx hb dX13_mirrors_68 rfl (lv_at hl 2 rfl) ?_
      obtain ⟨q69, hq69, hf⟩ := mm_bd hf
      refine mm_Vi (rest := []) hC hM (c_X13_becomes l hq69 hp_this) q8_54 q1_12 ykX13_becomes q8_51 q8_53 qp_0d901908 hp_this.1 rfl ⟨rfl, rfl⟩ ⟨Nat.le_of_ble_eq_true rfl, Nat.le_of_ble_eq_true rfl⟩ rfl hl.1 rfl (Nat.le_of_ble_eq_true rfl) dX13_mirrors_69 ⟨Nat.le_of_ble_eq_true rfl, Nat.le_of_ble_eq_true rfl⟩ (fun r w69 H locs hM hw => ?_)
      obtain ⟨hr, hn_this, hfr⟩ := hw
      rw [hr]
      have hp_this := hn_this
      have hF := hF.tr (hfr.wide (by omega) (by omega))
      cases hf
      exact hret hM dX13_mirrors_72 rfl ⟨rfl, hp_this, hF⟩
    · rw [if_pos hcd] at hf
      refine lv_aload_n hx hb dX13_mirrors_14 rfl (lv_at hl 0 rfl) ?_
      refine lv_iconst (v := 1) hx hb dX13_mirrors_15 (by decide) ?_
      obtain ⟨q16, hq16, hf⟩ := mm_bd hf
      refine mm_Vi (rest := []) hC hM (c_X13_fail l hq16 hp_this) q7_112 q1_12 ykX13_fail q7_109 q7_111 qp_bcc4f98e hp_this.1 rfl ⟨rfl, rfl⟩ ⟨Nat.le_of_ble_eq_true rfl, Nat.le_of_ble_eq_true rfl⟩ rfl hl.1 rfl (Nat.le_of_ble_eq_true rfl) dX13_mirrors_16 ⟨Nat.le_of_ble_eq_true rfl, Nat.le_of_ble_eq_true rfl⟩ (fun r w16 H locs hM hw => ?_)
      obtain ⟨hr, hn_this, hfr⟩ := hw
      rw [hr]
      have hp_this := hn_this
      have hF := hF.tr (hfr.wide (by omega) (by omega))
      cases hf
      exact hret hM dX13_mirrors_19 rfl ⟨rfl, hp_this, hF⟩
def f_X13_mirror (K : Nat) (changes : Int32) (v : Nat → Int32) (before : Nat → Int32) (past : Nat → Int32) (scratch : Nat → Int32) (x1 : Int32) (x2 : Int32) : Option (Int32 × Int32 × Int32 × (Nat → Int32) × (Nat → Int32) × (Nat → Int32) × (Nat → Int32)) := (f_X13_begins K v before).bind fun q1 => (f_X13_mirrors K q1.1 v scratch x1 x2).bind fun q8 => (f_X13_ends K q8.2.1 changes q8.2.2.1 q1.2 past q8.1).bind fun q11 => some (q11.1, q8.2.1, q11.2.1, q11.2.2.1, q1.2, q11.2.2.2, q8.2.2.2)
set_option maxHeartbeats 4000000 in
set_option maxRecDepth 100000 in
theorem c_X13_mirror (l : Launch) {G : mm_G} {K : Nat} {w : va_W} {sz : Nat} {b : Nat} {thrown : Int32} {changes : Int32} {errorAt : Int32} {failedAt : Int32} {isSaved : Int32} {v : Nat → Int32} {before : Nat → Int32} {saved : Nat → Int32} {past : Nat → Int32} {far : Nat → Int32} {scratch : Nat → Int32} {best : Nat → Int32} {thenX : Int32} {thenY : Int32} {thenMet : Int32} {text : Nat → Int32} {line : Nat → Int32} {isLeft : Nat → Int32} {words : Nat → Int32} {wordAt : Nat → Int32} {textN : Int32} {hereP : Int32} {endP : Int32} {lineN : Int32} {isWrong : Int32} {isDoing : Int32} {x1 : Int32} {x2 : Int32} {X : Int32 × Int32 × Int32 × (Nat → Int32) × (Nat → Int32) × (Nat → Int32) × (Nat → Int32)} (hf : f_X13_mirror K changes v before past scratch x1 x2 = some X) (hp_this : At13 G w b thrown changes errorAt failedAt isSaved v before saved past far scratch best thenX thenY thenMet text line isLeft words wordAt textN hereP endP lineN isWrong isDoing) : Met l yX13_mirror (Cond.code yX13_mirror cX13_mirror 3 (some .int) :: gAll) ({ frames := 3, cells := 0, slots := 0, locals := 68 }) (va_Pc [.ref b, .int x1, .int x2] (mm_Pre G w sz)) (mm_Qi G w sz (fun r w' => r = X.1 ∧ At13 G w' b X.2.1 X.2.2.1 errorAt failedAt isSaved X.2.2.2.1 X.2.2.2.2.1 saved X.2.2.2.2.2.1 far X.2.2.2.2.2.2 best thenX thenY thenMet text line isLeft words wordAt textN hereP endP lineN isWrong isDoing ∧ mm_fr w w' b (b + 13))) 0 0 (va_A w sz) := by
  refine mm_headI [.ref b, .int x1, .int x2] (by decide +kernel) rfl (Nat.le_of_ble_eq_true rfl) ?_
  intro p e s m args below meth c A Q hsz hC hM hret ls hl
  have hx := hC.1.1
  have hb := hC.1.2.1
  have hl : lv_has ls 3 [(0, .ref b), (1, .int x1), (2, .int x2)] := hl
  have hF : mm_fr w w b (b + 13) := mm_fr.rf
  rw [f_X13_mirror] at hf
  refine lv_aload_n hx hb dX13_mirror_0 rfl (lv_at hl 0 rfl) ?_
  obtain ⟨q1, hq1, hf⟩ := mm_bd hf
  refine mm_Vv (rest := []) hC hM (c_X13_begins l hq1 hp_this) q7_95 q1_12 ykX13_begins q7_92 q7_94 qp_0e68fe50 hp_this.1 rfl ⟨rfl, rfl⟩ ⟨Nat.le_of_ble_eq_true rfl, Nat.le_of_ble_eq_true rfl⟩ rfl hl.1 rfl (Nat.le_of_ble_eq_true rfl) dX13_mirror_1 ⟨Nat.le_of_ble_eq_true rfl, Nat.le_of_ble_eq_true rfl⟩ (fun w1 H locs hM hw => ?_)
  obtain ⟨hn_this, hfr⟩ := hw
  have hp_this := hn_this
  have hF := hF.tr (hfr.wide (by omega) (by omega))
  refine lv_aload_n hx hb dX13_mirror_4 rfl (lv_at hl 0 rfl) ?_
  refine lv_aload_n hx hb dX13_mirror_5 rfl (lv_at hl 0 rfl) ?_
  refine lv_iload_n hx hb dX13_mirror_6 rfl (lv_at hl 1 rfl) ?_
  refine lv_iload_n hx hb dX13_mirror_7 rfl (lv_at hl 2 rfl) ?_
  obtain ⟨q8, hq8, hf⟩ := mm_bd hf
  refine mm_Vi (rest := [.ref b]) hC hM (c_X13_mirrors l hq8 hp_this) q8_47 q1_12 ykX13_mirrors q8_44 q8_46 qp_44ed4a92 hp_this.1 rfl ⟨rfl, rfl⟩ ⟨Nat.le_of_ble_eq_true rfl, Nat.le_of_ble_eq_true rfl⟩ rfl hl.1 rfl (Nat.le_of_ble_eq_true rfl) dX13_mirror_8 ⟨Nat.le_of_ble_eq_true rfl, Nat.le_of_ble_eq_true rfl⟩ (fun r w8 H locs hM hw => ?_)
  obtain ⟨hr, hn_this, hfr⟩ := hw
  rw [hr]
  have hp_this := hn_this
  have hF := hF.tr (hfr.wide (by omega) (by omega))
  obtain ⟨q11, hq11, hf⟩ := mm_bd hf
  refine mm_Vi (rest := []) hC hM (c_X13_ends l hq11 hp_this) q7_133 q1_12 ykX13_ends q7_130 q7_132 qp_952383d2 hp_this.1 rfl ⟨rfl, rfl⟩ ⟨Nat.le_of_ble_eq_true rfl, Nat.le_of_ble_eq_true rfl⟩ rfl hl.1 rfl (Nat.le_of_ble_eq_true rfl) dX13_mirror_11 ⟨Nat.le_of_ble_eq_true rfl, Nat.le_of_ble_eq_true rfl⟩ (fun r w11 H locs hM hw => ?_)
  obtain ⟨hr, hn_this, hfr⟩ := hw
  rw [hr]
  have hp_this := hn_this
  have hF := hF.tr (hfr.wide (by omega) (by omega))
  cases hf
  exact hret hM dX13_mirror_14 rfl ⟨rfl, hp_this, hF⟩
def f_X13_turns_L33 (v : Nat → Int32) (x1 : Int32) (x3 : Int32) : Nat → (Int32) → (Nat → Int32) → Option (Nat → Int32)
  | 0, _, _ => none
  | n + 1, x4, scratch => if x3 ≤ x4 then some scratch else (f_X13_at x1 ((x3 - 1) - x4)).bind fun q56 => mm_g (mm_ck q56 238) (mm_g (mm_ck x4 60) (f_X13_turns_L33 v x1 x3 n (x4 + 1) (upd scratch x4.toNatClampNeg ((v q56.toNatClampNeg) ^^^ 1))))
def f_X13_turns (K : Nat) (thrown : Int32) (v : Nat → Int32) (scratch : Nat → Int32) (x1 : Int32) (x2 : Int32) : Option (Int32 × Int32 × (Nat → Int32) × (Nat → Int32)) := (f_X13_isPlan x1).bind fun q1 => if q1 = 0 then (f_X13_fail 1).bind fun q16 => some (q16.1, q16.2, v, scratch) else (f_X13_isPlan x2).bind fun q8 => if q8 = 0 then (f_X13_fail 1).bind fun q16 => some (q16.1, q16.2, v, scratch) else mm_g (mm_ck (104 + x1) 238) ((f_X13_turns_L33 v x1 (v (104 + x1).toNatClampNeg) K 0 scratch).bind fun q33 => (f_X13_becomes K v q33 x2 (v (104 + x1).toNatClampNeg)).bind fun q72 => some (q72.1, thrown, q72.2, q33))
set_option maxHeartbeats 4000000 in
set_option maxRecDepth 100000 in
theorem c_X13_turns (l : Launch) {G : mm_G} {K : Nat} {w : va_W} {sz : Nat} {b : Nat} {thrown : Int32} {changes : Int32} {errorAt : Int32} {failedAt : Int32} {isSaved : Int32} {v : Nat → Int32} {before : Nat → Int32} {saved : Nat → Int32} {past : Nat → Int32} {far : Nat → Int32} {scratch : Nat → Int32} {best : Nat → Int32} {thenX : Int32} {thenY : Int32} {thenMet : Int32} {text : Nat → Int32} {line : Nat → Int32} {isLeft : Nat → Int32} {words : Nat → Int32} {wordAt : Nat → Int32} {textN : Int32} {hereP : Int32} {endP : Int32} {lineN : Int32} {isWrong : Int32} {isDoing : Int32} {x1 : Int32} {x2 : Int32} {X : Int32 × Int32 × (Nat → Int32) × (Nat → Int32)} (hf : f_X13_turns K thrown v scratch x1 x2 = some X) (hp_this : At13 G w b thrown changes errorAt failedAt isSaved v before saved past far scratch best thenX thenY thenMet text line isLeft words wordAt textN hereP endP lineN isWrong isDoing) : Met l yX13_turns (Cond.code yX13_turns cX13_turns 5 (some .int) :: gAll) ({ frames := 2, cells := 0, slots := 0, locals := 44 }) (va_Pc [.ref b, .int x1, .int x2] (mm_Pre G w sz)) (mm_Qi G w sz (fun r w' => r = X.1 ∧ At13 G w' b X.2.1 changes errorAt failedAt isSaved X.2.2.1 before saved past far X.2.2.2 best thenX thenY thenMet text line isLeft words wordAt textN hereP endP lineN isWrong isDoing ∧ mm_fr w w' b (b + 13))) 0 0 (va_A w sz) := by
  refine mm_headI [.ref b, .int x1, .int x2] (by decide +kernel) rfl (Nat.le_of_ble_eq_true rfl) ?_
  intro p e s m args below meth c A Q hsz hC hM hret ls hl
  have hx := hC.1.1
  have hb := hC.1.2.1
  have hl : lv_has ls 5 [(0, .ref b), (1, .int x1), (2, .int x2)] := hl
  have hF : mm_fr w w b (b + 13) := mm_fr.rf
  rw [f_X13_turns] at hf
  refine lv_iload_n hx hb dX13_turns_0 rfl (lv_at hl 1 rfl) ?_
  obtain ⟨q1, hq1, hf⟩ := mm_bd hf
  refine mm_Si (rest := []) hC hM (c_X13_isPlan l hq1) q8_28 q1_12 ykX13_isPlan q8_26 q8_27 ⟨rfl, rfl⟩ ⟨Nat.le_of_ble_eq_true rfl, Nat.le_of_ble_eq_true rfl⟩ rfl hl.1 rfl (Nat.le_of_ble_eq_true rfl) dX13_turns_1 ⟨Nat.le_of_ble_eq_true rfl, Nat.le_of_ble_eq_true rfl⟩ (fun r w1 H locs hM hw => ?_)
  obtain ⟨hr, hw⟩ := hw
  rw [hr]
  rw [hw] at hM
  refine lv_if_eq (tgt := 14) hx hb dX13_turns_4 (by decide) (fun hcd => ?_) (fun hcd => ?_)
  · rw [if_pos hcd] at hf
    refine lv_aload_n hx hb dX13_turns_14 rfl (lv_at hl 0 rfl) ?_
    refine lv_iconst (v := 1) hx hb dX13_turns_15 (by decide) ?_
    obtain ⟨q16, hq16, hf⟩ := mm_bd hf
    refine mm_Vi (rest := []) hC hM (c_X13_fail l hq16 hp_this) q7_112 q1_12 ykX13_fail q7_109 q7_111 qp_bcc4f98e hp_this.1 rfl ⟨rfl, rfl⟩ ⟨Nat.le_of_ble_eq_true rfl, Nat.le_of_ble_eq_true rfl⟩ rfl hl.1 rfl (Nat.le_of_ble_eq_true rfl) dX13_turns_16 ⟨Nat.le_of_ble_eq_true rfl, Nat.le_of_ble_eq_true rfl⟩ (fun r w16 H locs hM hw => ?_)
    obtain ⟨hr, hn_this, hfr⟩ := hw
    rw [hr]
    have hp_this := hn_this
    have hF := hF.tr (hfr.wide (by omega) (by omega))
    cases hf
    exact hret hM dX13_turns_19 rfl ⟨rfl, hp_this, hF⟩
  · rw [if_neg hcd] at hf
    refine lv_iload_n hx hb dX13_turns_7 rfl (lv_at hl 2 rfl) ?_
    obtain ⟨q8, hq8, hf⟩ := mm_bd hf
    refine mm_Si (rest := []) hC hM (c_X13_isPlan l hq8) q8_28 q1_12 ykX13_isPlan q8_26 q8_27 ⟨rfl, rfl⟩ ⟨Nat.le_of_ble_eq_true rfl, Nat.le_of_ble_eq_true rfl⟩ rfl hl.1 rfl (Nat.le_of_ble_eq_true rfl) dX13_turns_8 ⟨Nat.le_of_ble_eq_true rfl, Nat.le_of_ble_eq_true rfl⟩ (fun r w8 H locs hM hw => ?_)
    obtain ⟨hr, hw⟩ := hw
    rw [hr]
    rw [hw] at hM
    refine lv_if_ne (tgt := 20) hx hb dX13_turns_11 (by decide) (fun hcd => ?_) (fun hcd => ?_)
    · rw [if_neg hcd] at hf
      refine lv_aload_n hx hb dX13_turns_20 rfl (lv_at hl 0 rfl) ?_
      refine mm_get hC hM (k := 5) hp_this.1 rfl inAX13 (by decide) q7_10 rfl dX13_turns_21 ?_
      refine lv_bipush (v := 104) hx hb dX13_turns_24 (by decide) ?_
      refine lv_iload_n hx hb dX13_turns_26 rfl (lv_at hl 1 rfl) ?_
      refine lv_iadd hx hb dX13_turns_27 ?_
      obtain ⟨hg28, hf⟩ := mm_gd hf
      refine mm_iald hC hM (hp_this.2.1) hg28 dX13_turns_28 ?_
      refine lv_istore_n (lv' := [(3, .int (v (104 + x1).toNatClampNeg)), (0, .ref b), (1, .int x1), (2, .int x2)]) hx hb dX13_turns_29 rfl hl (by decide) rfl (fun ls hl => ?_)
      refine lv_iconst (v := 0) hx hb dX13_turns_30 (by decide) ?_
      refine lv_istore (lv' := [(4, .int 0), (3, .int (v (104 + x1).toNatClampNeg)), (0, .ref b), (1, .int x1), (2, .int x2)]) hx hb dX13_turns_31 hl (by decide) rfl (fun ls hl => ?_)
      have L33 : ∀ (n : Nat) (L33_x4 : Int32) (L33_scratch : Nat → Int32) (X : Nat → Int32), f_X13_turns_L33 v x1 (v (104 + x1).toNatClampNeg) n L33_x4 L33_scratch = some X → ∀ (L33_w : va_W) (H : Heap) (locs : List Loc), mm_S G A s.heap L33_w H locs → At13 G L33_w b thrown changes errorAt failedAt isSaved v before saved past far L33_scratch best thenX thenY thenMet text line isLeft words wordAt textN hereP endP lineN isWrong isDoing → mm_fr w L33_w b (b + 13) → ∀ (ls : Array Slot), lv_has ls 5 [(0, .ref b), (1, .int x1), (2, .int x2), (3, .int (v (104 + x1).toNatClampNeg)), (4, .int L33_x4)] → (∀ (w9 : va_W) (H : Heap) (locs : List Loc), mm_S G A s.heap w9 H locs → At13 G w9 b thrown changes errorAt failedAt isSaved v before saved past far X best thenX thenY thenMet text line isLeft words wordAt textN hereP endP lineN isWrong isDoing → mm_fr w w9 b (b + 13) → ∀ (ls : Array Slot), lv_has ls 5 [(0, .ref b), (2, .int x2), (3, .int (v (104 + x1).toNatClampNeg))] → W p l e ({ frames := 2, cells := 0, slots := 0, locals := 44 } : Room) s m args below meth c H locs 0 0 Q (F0 m 69 ls [])) → W p l e ({ frames := 2, cells := 0, slots := 0, locals := 44 } : Room) s m args below meth c H locs 0 0 Q (F0 m 33 ls []) := by
        intro n
        induction n with
        | zero => intro L33_x4 L33_scratch X hf; cases hf
        | succ n ih =>
          intro L33_x4 L33_scratch X hf L33_w H locs hM hp_this hF ls hl hk
          rw [f_X13_turns_L33] at hf
          refine lv_iload hx hb dX13_turns_33 (lv_at hl 4 rfl) ?_
          refine lv_iload_n hx hb dX13_turns_35 rfl (lv_at hl 3 rfl) ?_
          refine lv_icmp_ge (tgt := 69) hx hb dX13_turns_36 (by decide) (fun hcd => ?_) (fun hcd => ?_)
          · rw [if_pos hcd] at hf
            cases hf
            exact hk _ _ _ hM hp_this hF _ (lv_sub hl [0, 2, 3] rfl)
          · rw [if_neg hcd] at hf
            refine lv_aload_n hx hb dX13_turns_39 rfl (lv_at hl 0 rfl) ?_
            refine mm_get hC hM (k := 10) hp_this.1 rfl inAX13 (by decide) q7_15 rfl dX13_turns_40 ?_
            refine lv_iload hx hb dX13_turns_43 (lv_at hl 4 rfl) ?_
            refine lv_aload_n hx hb dX13_turns_45 rfl (lv_at hl 0 rfl) ?_
            refine mm_get hC hM (k := 5) hp_this.1 rfl inAX13 (by decide) q7_10 rfl dX13_turns_46 ?_
            refine lv_iload_n hx hb dX13_turns_49 rfl (lv_at hl 1 rfl) ?_
            refine lv_iload_n hx hb dX13_turns_50 rfl (lv_at hl 3 rfl) ?_
            refine lv_iconst (v := 1) hx hb dX13_turns_51 (by decide) ?_
            refine lv_isub hx hb dX13_turns_52 ?_
            refine lv_iload hx hb dX13_turns_53 (lv_at hl 4 rfl) ?_
            refine lv_isub hx hb dX13_turns_55 ?_
            obtain ⟨q56, hq56, hf⟩ := mm_bd hf
            refine mm_Si (rest := [.ref (b + 1), .int L33_x4, .ref (b + 6)]) hC hM (c_X13_at l hq56) q8_31 q1_12 ykX13_at q8_29 q8_30 ⟨rfl, rfl⟩ ⟨Nat.le_of_ble_eq_true rfl, Nat.le_of_ble_eq_true rfl⟩ rfl hl.1 rfl (Nat.le_of_ble_eq_true rfl) dX13_turns_56 ⟨Nat.le_of_ble_eq_true rfl, Nat.le_of_ble_eq_true rfl⟩ (fun r w56 H locs hM hw => ?_)
            obtain ⟨hr, hw⟩ := hw
            rw [hr]
            rw [hw] at hM
            obtain ⟨hg59, hf⟩ := mm_gd hf
            refine mm_iald hC hM (hp_this.2.1) hg59 dX13_turns_59 ?_
            refine lv_iconst (v := 1) hx hb dX13_turns_60 (by decide) ?_
            refine lv_ixor hx hb dX13_turns_61 ?_
            obtain ⟨hg62, hf⟩ := mm_gd hf
            refine mm_iast hC hM (hp_this.2.2.2.2.2.2.1) hg62 dX13_turns_62 (fun w62 H locs hM hm => ?_)
            have hp_this : At13 G w62 b thrown changes errorAt failedAt isSaved v before saved past far (upd L33_scratch L33_x4.toNatClampNeg ((v q56.toNatClampNeg) ^^^ 1)) best thenX thenY thenMet text line isLeft words wordAt textN hereP endP lineN isWrong isDoing := ⟨hm.keep (hp_this.1) (by omega), hm.keep (hp_this.2.1) (by omega), hm.keep (hp_this.2.2.1) (by omega), hm.keep (hp_this.2.2.2.1) (by omega), hm.keep (hp_this.2.2.2.2.1) (by omega), hm.keep (hp_this.2.2.2.2.2.1) (by omega), hm.1, hm.keep (hp_this.2.2.2.2.2.2.2.1) (by omega), hm.keep (hp_this.2.2.2.2.2.2.2.2.1) (by omega), hm.keep (hp_this.2.2.2.2.2.2.2.2.2.1) (by omega), hm.keep (hp_this.2.2.2.2.2.2.2.2.2.2.1) (by omega), hm.keep (hp_this.2.2.2.2.2.2.2.2.2.2.2.1) (by omega), hm.keep (hp_this.2.2.2.2.2.2.2.2.2.2.2.2) (by omega)⟩
            have hF := hF.tr (hm.fr (by omega) (by omega))
            refine lv_iinc (v := (L33_x4 + 1)) (lv' := [(4, .int (L33_x4 + 1)), (0, .ref b), (1, .int x1), (2, .int x2), (3, .int (v (104 + x1).toNatClampNeg))]) hx hb dX13_turns_63 hl (k := 4) rfl rfl (by decide) rfl (fun ls hl => ?_)
            refine lv_goto (tgt := 33) hx hb dX13_turns_66 (by decide) ?_
            exact ih _ _ _ hf _ _ _ hM hp_this hF _ (lv_sub hl [1, 2, 3, 4, 0] rfl) hk
      obtain ⟨q33, hq33, hf⟩ := mm_bd hf
      refine L33 K _ _ _ hq33 _ _ _ hM hp_this hF _ (lv_sub hl [2, 3, 4, 1, 0] rfl) (fun w33 H locs hM hp_this hF ls hl => ?_)
      refine lv_aload_n hx hb dX13_turns_69 rfl (lv_at hl 0 rfl) ?_
      refine lv_iload_n hx hb dX13_turns_70 rfl (lv_at hl 1 rfl) ?_
      refine lv_iload_n hx hb dX13_turns_71 rfl (lv_at hl 2 rfl) ?_
      obtain ⟨q72, hq72, hf⟩ := mm_bd hf
      refine mm_Vi (rest := []) hC hM (c_X13_becomes l hq72 hp_this) q8_54 q1_12 ykX13_becomes q8_51 q8_53 qp_0d901908 hp_this.1 rfl ⟨rfl, rfl⟩ ⟨Nat.le_of_ble_eq_true rfl, Nat.le_of_ble_eq_true rfl⟩ rfl hl.1 rfl (Nat.le_of_ble_eq_true rfl) dX13_turns_72 ⟨Nat.le_of_ble_eq_true rfl, Nat.le_of_ble_eq_true rfl⟩ (fun r w72 H locs hM hw => ?_)
      obtain ⟨hr, hn_this, hfr⟩ := hw
      rw [hr]
      have hp_this := hn_this
      have hF := hF.tr (hfr.wide (by omega) (by omega))
      cases hf
      exact hret hM dX13_turns_75 rfl ⟨rfl, hp_this, hF⟩
    · rw [if_pos hcd] at hf
      refine lv_aload_n hx hb dX13_turns_14 rfl (lv_at hl 0 rfl) ?_
      refine lv_iconst (v := 1) hx hb dX13_turns_15 (by decide) ?_
      obtain ⟨q16, hq16, hf⟩ := mm_bd hf
      refine mm_Vi (rest := []) hC hM (c_X13_fail l hq16 hp_this) q7_112 q1_12 ykX13_fail q7_109 q7_111 qp_bcc4f98e hp_this.1 rfl ⟨rfl, rfl⟩ ⟨Nat.le_of_ble_eq_true rfl, Nat.le_of_ble_eq_true rfl⟩ rfl hl.1 rfl (Nat.le_of_ble_eq_true rfl) dX13_turns_16 ⟨Nat.le_of_ble_eq_true rfl, Nat.le_of_ble_eq_true rfl⟩ (fun r w16 H locs hM hw => ?_)
      obtain ⟨hr, hn_this, hfr⟩ := hw
      rw [hr]
      have hp_this := hn_this
      have hF := hF.tr (hfr.wide (by omega) (by omega))
      cases hf
      exact hret hM dX13_turns_19 rfl ⟨rfl, hp_this, hF⟩
def f_X13_reverse (K : Nat) (changes : Int32) (v : Nat → Int32) (before : Nat → Int32) (past : Nat → Int32) (scratch : Nat → Int32) (x1 : Int32) (x2 : Int32) : Option (Int32 × Int32 × Int32 × (Nat → Int32) × (Nat → Int32) × (Nat → Int32) × (Nat → Int32)) := (f_X13_begins K v before).bind fun q1 => (f_X13_turns K q1.1 v scratch x1 x2).bind fun q8 => (f_X13_ends K q8.2.1 changes q8.2.2.1 q1.2 past q8.1).bind fun q11 => some (q11.1, q8.2.1, q11.2.1, q11.2.2.1, q1.2, q11.2.2.2, q8.2.2.2)
set_option maxHeartbeats 4000000 in
set_option maxRecDepth 100000 in
theorem c_X13_reverse (l : Launch) {G : mm_G} {K : Nat} {w : va_W} {sz : Nat} {b : Nat} {thrown : Int32} {changes : Int32} {errorAt : Int32} {failedAt : Int32} {isSaved : Int32} {v : Nat → Int32} {before : Nat → Int32} {saved : Nat → Int32} {past : Nat → Int32} {far : Nat → Int32} {scratch : Nat → Int32} {best : Nat → Int32} {thenX : Int32} {thenY : Int32} {thenMet : Int32} {text : Nat → Int32} {line : Nat → Int32} {isLeft : Nat → Int32} {words : Nat → Int32} {wordAt : Nat → Int32} {textN : Int32} {hereP : Int32} {endP : Int32} {lineN : Int32} {isWrong : Int32} {isDoing : Int32} {x1 : Int32} {x2 : Int32} {X : Int32 × Int32 × Int32 × (Nat → Int32) × (Nat → Int32) × (Nat → Int32) × (Nat → Int32)} (hf : f_X13_reverse K changes v before past scratch x1 x2 = some X) (hp_this : At13 G w b thrown changes errorAt failedAt isSaved v before saved past far scratch best thenX thenY thenMet text line isLeft words wordAt textN hereP endP lineN isWrong isDoing) : Met l yX13_reverse (Cond.code yX13_reverse cX13_reverse 3 (some .int) :: gAll) ({ frames := 3, cells := 0, slots := 0, locals := 68 }) (va_Pc [.ref b, .int x1, .int x2] (mm_Pre G w sz)) (mm_Qi G w sz (fun r w' => r = X.1 ∧ At13 G w' b X.2.1 X.2.2.1 errorAt failedAt isSaved X.2.2.2.1 X.2.2.2.2.1 saved X.2.2.2.2.2.1 far X.2.2.2.2.2.2 best thenX thenY thenMet text line isLeft words wordAt textN hereP endP lineN isWrong isDoing ∧ mm_fr w w' b (b + 13))) 0 0 (va_A w sz) := by
  refine mm_headI [.ref b, .int x1, .int x2] (by decide +kernel) rfl (Nat.le_of_ble_eq_true rfl) ?_
  intro p e s m args below meth c A Q hsz hC hM hret ls hl
  have hx := hC.1.1
  have hb := hC.1.2.1
  have hl : lv_has ls 3 [(0, .ref b), (1, .int x1), (2, .int x2)] := hl
  have hF : mm_fr w w b (b + 13) := mm_fr.rf
  rw [f_X13_reverse] at hf
  refine lv_aload_n hx hb dX13_reverse_0 rfl (lv_at hl 0 rfl) ?_
  obtain ⟨q1, hq1, hf⟩ := mm_bd hf
  refine mm_Vv (rest := []) hC hM (c_X13_begins l hq1 hp_this) q7_95 q1_12 ykX13_begins q7_92 q7_94 qp_0e68fe50 hp_this.1 rfl ⟨rfl, rfl⟩ ⟨Nat.le_of_ble_eq_true rfl, Nat.le_of_ble_eq_true rfl⟩ rfl hl.1 rfl (Nat.le_of_ble_eq_true rfl) dX13_reverse_1 ⟨Nat.le_of_ble_eq_true rfl, Nat.le_of_ble_eq_true rfl⟩ (fun w1 H locs hM hw => ?_)
  obtain ⟨hn_this, hfr⟩ := hw
  have hp_this := hn_this
  have hF := hF.tr (hfr.wide (by omega) (by omega))
  refine lv_aload_n hx hb dX13_reverse_4 rfl (lv_at hl 0 rfl) ?_
  refine lv_aload_n hx hb dX13_reverse_5 rfl (lv_at hl 0 rfl) ?_
  refine lv_iload_n hx hb dX13_reverse_6 rfl (lv_at hl 1 rfl) ?_
  refine lv_iload_n hx hb dX13_reverse_7 rfl (lv_at hl 2 rfl) ?_
  obtain ⟨q8, hq8, hf⟩ := mm_bd hf
  refine mm_Vi (rest := [.ref b]) hC hM (c_X13_turns l hq8 hp_this) q8_62 q1_12 ykX13_turns q8_59 q8_61 qp_284a0b05 hp_this.1 rfl ⟨rfl, rfl⟩ ⟨Nat.le_of_ble_eq_true rfl, Nat.le_of_ble_eq_true rfl⟩ rfl hl.1 rfl (Nat.le_of_ble_eq_true rfl) dX13_reverse_8 ⟨Nat.le_of_ble_eq_true rfl, Nat.le_of_ble_eq_true rfl⟩ (fun r w8 H locs hM hw => ?_)
  obtain ⟨hr, hn_this, hfr⟩ := hw
  rw [hr]
  have hp_this := hn_this
  have hF := hF.tr (hfr.wide (by omega) (by omega))
  obtain ⟨q11, hq11, hf⟩ := mm_bd hf
  refine mm_Vi (rest := []) hC hM (c_X13_ends l hq11 hp_this) q7_133 q1_12 ykX13_ends q7_130 q7_132 qp_952383d2 hp_this.1 rfl ⟨rfl, rfl⟩ ⟨Nat.le_of_ble_eq_true rfl, Nat.le_of_ble_eq_true rfl⟩ rfl hl.1 rfl (Nat.le_of_ble_eq_true rfl) dX13_reverse_11 ⟨Nat.le_of_ble_eq_true rfl, Nat.le_of_ble_eq_true rfl⟩ (fun r w11 H locs hM hw => ?_)
  obtain ⟨hr, hn_this, hfr⟩ := hw
  rw [hr]
  have hp_this := hn_this
  have hF := hF.tr (hfr.wide (by omega) (by omega))
  cases hf
  exact hret hM dX13_reverse_14 rfl ⟨rfl, hp_this, hF⟩
def f_X13_left_L4 (v : Nat → Int32) (x1 : Int32) : Nat → (Int32) → (Int32) → (Nat → Int32) → Option (Int32 × (Nat → Int32))
  | 0, _, _, _ => none
  | n + 1, x2, x3, scratch => mm_g (mm_ck (104 + x1) 238) (if (v (104 + x1).toNatClampNeg) ≤ x3 then some (x2, scratch) else (f_X13_at x1 x3).bind fun q23 => mm_g (mm_ck q23 238) (if x2 ≤ 0 then mm_g (mm_ck x2 60) (f_X13_left_L4 v x1 n (x2 + 1) (x3 + 1) (upd scratch x2.toNatClampNeg (v q23.toNatClampNeg))) else mm_g (mm_ck (x2 - 1) 60) (if (scratch (x2 - 1).toNatClampNeg) = ((v q23.toNatClampNeg) ^^^ 1) then f_X13_left_L4 v x1 n (x2 + (-1)) (x3 + 1) scratch else mm_g (mm_ck x2 60) (f_X13_left_L4 v x1 n (x2 + 1) (x3 + 1) (upd scratch x2.toNatClampNeg (v q23.toNatClampNeg))))))
def f_X13_left (K : Nat) (v : Nat → Int32) (scratch : Nat → Int32) (x1 : Int32) : Option (Int32 × (Nat → Int32)) := (f_X13_left_L4 v x1 K 0 0 scratch).bind fun q4 => some (q4.1, q4.2)
set_option maxHeartbeats 4000000 in
set_option maxRecDepth 100000 in
theorem c_X13_left (l : Launch) {G : mm_G} {K : Nat} {w : va_W} {sz : Nat} {b : Nat} {thrown : Int32} {changes : Int32} {errorAt : Int32} {failedAt : Int32} {isSaved : Int32} {v : Nat → Int32} {before : Nat → Int32} {saved : Nat → Int32} {past : Nat → Int32} {far : Nat → Int32} {scratch : Nat → Int32} {best : Nat → Int32} {thenX : Int32} {thenY : Int32} {thenMet : Int32} {text : Nat → Int32} {line : Nat → Int32} {isLeft : Nat → Int32} {words : Nat → Int32} {wordAt : Nat → Int32} {textN : Int32} {hereP : Int32} {endP : Int32} {lineN : Int32} {isWrong : Int32} {isDoing : Int32} {x1 : Int32} {X : Int32 × (Nat → Int32)} (hf : f_X13_left K v scratch x1 = some X) (hp_this : At13 G w b thrown changes errorAt failedAt isSaved v before saved past far scratch best thenX thenY thenMet text line isLeft words wordAt textN hereP endP lineN isWrong isDoing) : Met l yX13_left (Cond.code yX13_left cX13_left 5 (some .int) :: gAll) ({ frames := 1, cells := 0, slots := 0, locals := 21 }) (va_Pc [.ref b, .int x1] (mm_Pre G w sz)) (mm_Qi G w sz (fun r w' => r = X.1 ∧ At13 G w' b thrown changes errorAt failedAt isSaved v before saved past far X.2 best thenX thenY thenMet text line isLeft words wordAt textN hereP endP lineN isWrong isDoing ∧ mm_fr w w' b (b + 13))) 0 0 (va_A w sz) := by
  refine mm_headI [.ref b, .int x1] (by decide +kernel) rfl (Nat.le_of_ble_eq_true rfl) ?_
  intro p e s m args below meth c A Q hsz hC hM hret ls hl
  have hx := hC.1.1
  have hb := hC.1.2.1
  have hl : lv_has ls 5 [(0, .ref b), (1, .int x1)] := hl
  have hF : mm_fr w w b (b + 13) := mm_fr.rf
  rw [f_X13_left] at hf
  refine lv_iconst (v := 0) hx hb dX13_left_0 (by decide) ?_
  refine lv_istore_n (lv' := [(2, .int 0), (0, .ref b), (1, .int x1)]) hx hb dX13_left_1 rfl hl (by decide) rfl (fun ls hl => ?_)
  refine lv_iconst (v := 0) hx hb dX13_left_2 (by decide) ?_
  refine lv_istore_n (lv' := [(3, .int 0), (2, .int 0), (0, .ref b), (1, .int x1)]) hx hb dX13_left_3 rfl hl (by decide) rfl (fun ls hl => ?_)
  have L4 : ∀ (n : Nat) (L4_x2 : Int32) (L4_x3 : Int32) (L4_scratch : Nat → Int32) (X : Int32 × (Nat → Int32)), f_X13_left_L4 v x1 n L4_x2 L4_x3 L4_scratch = some X → ∀ (L4_w : va_W) (H : Heap) (locs : List Loc), mm_S G A s.heap L4_w H locs → At13 G L4_w b thrown changes errorAt failedAt isSaved v before saved past far L4_scratch best thenX thenY thenMet text line isLeft words wordAt textN hereP endP lineN isWrong isDoing → mm_fr w L4_w b (b + 13) → ∀ (ls : Array Slot), lv_has ls 5 [(0, .ref b), (1, .int x1), (2, .int L4_x2), (3, .int L4_x3)] → (∀ (w9 : va_W) (H : Heap) (locs : List Loc), mm_S G A s.heap w9 H locs → At13 G w9 b thrown changes errorAt failedAt isSaved v before saved past far X.2 best thenX thenY thenMet text line isLeft words wordAt textN hereP endP lineN isWrong isDoing → mm_fr w w9 b (b + 13) → ∀ (ls : Array Slot), lv_has ls 5 [(2, .int X.1)] → W p l e ({ frames := 1, cells := 0, slots := 0, locals := 21 } : Room) s m args below meth c H locs 0 0 Q (F0 m 71 ls [])) → W p l e ({ frames := 1, cells := 0, slots := 0, locals := 21 } : Room) s m args below meth c H locs 0 0 Q (F0 m 4 ls []) := by
    intro n
    induction n with
    | zero => intro L4_x2 L4_x3 L4_scratch X hf; cases hf
    | succ n ih =>
      intro L4_x2 L4_x3 L4_scratch X hf L4_w H locs hM hp_this hF ls hl hk
      rw [f_X13_left_L4] at hf
      refine lv_iload_n hx hb dX13_left_4 rfl (lv_at hl 3 rfl) ?_
      refine lv_aload_n hx hb dX13_left_5 rfl (lv_at hl 0 rfl) ?_
      refine mm_get hC hM (k := 5) hp_this.1 rfl inAX13 (by decide) q7_10 rfl dX13_left_6 ?_
      refine lv_bipush (v := 104) hx hb dX13_left_9 (by decide) ?_
      refine lv_iload_n hx hb dX13_left_11 rfl (lv_at hl 1 rfl) ?_
      refine lv_iadd hx hb dX13_left_12 ?_
      obtain ⟨hg13, hf⟩ := mm_gd hf
      refine mm_iald hC hM (hp_this.2.1) hg13 dX13_left_13 ?_
      refine lv_icmp_ge (tgt := 71) hx hb dX13_left_14 (by decide) (fun hcd => ?_) (fun hcd => ?_)
      · rw [if_pos hcd] at hf
        cases hf
        exact hk _ _ _ hM hp_this hF _ (lv_sub hl [2] rfl)
      · rw [if_neg hcd] at hf
        refine lv_aload_n hx hb dX13_left_17 rfl (lv_at hl 0 rfl) ?_
        refine mm_get hC hM (k := 5) hp_this.1 rfl inAX13 (by decide) q7_10 rfl dX13_left_18 ?_
        refine lv_iload_n hx hb dX13_left_21 rfl (lv_at hl 1 rfl) ?_
        refine lv_iload_n hx hb dX13_left_22 rfl (lv_at hl 3 rfl) ?_
        obtain ⟨q23, hq23, hf⟩ := mm_bd hf
        refine mm_Si (rest := [.ref (b + 1)]) hC hM (c_X13_at l hq23) q8_31 q1_12 ykX13_at q8_29 q8_30 ⟨rfl, rfl⟩ ⟨Nat.le_of_ble_eq_true rfl, Nat.le_of_ble_eq_true rfl⟩ rfl hl.1 rfl (Nat.le_of_ble_eq_true rfl) dX13_left_23 ⟨Nat.le_of_ble_eq_true rfl, Nat.le_of_ble_eq_true rfl⟩ (fun r w23 H locs hM hw => ?_)
        obtain ⟨hr, hw⟩ := hw
        rw [hr]
        rw [hw] at hM
        obtain ⟨hg26, hf⟩ := mm_gd hf
        refine mm_iald hC hM (hp_this.2.1) hg26 dX13_left_26 ?_
        refine lv_istore (lv' := [(4, .int (v q23.toNatClampNeg)), (0, .ref b), (1, .int x1), (2, .int L4_x2), (3, .int L4_x3)]) hx hb dX13_left_27 hl (by decide) rfl (fun ls hl => ?_)
        refine lv_iload_n hx hb dX13_left_29 rfl (lv_at hl 3 rfl) ?_
        refine lv_if_le (tgt := 54) hx hb dX13_left_30 (by decide) (fun hcd => ?_) (fun hcd => ?_)
        · rw [if_pos hcd] at hf
          refine lv_aload_n hx hb dX13_left_54 rfl (lv_at hl 1 rfl) ?_
          refine mm_get hC hM (k := 10) hp_this.1 rfl inAX13 (by decide) q7_15 rfl dX13_left_55 ?_
          refine lv_iload_n hx hb dX13_left_58 rfl (lv_at hl 3 rfl) ?_
          refine lv_iload hx hb dX13_left_59 (lv_at hl 0 rfl) ?_
          obtain ⟨hg61, hf⟩ := mm_gd hf
          refine mm_iast hC hM (hp_this.2.2.2.2.2.2.1) hg61 dX13_left_61 (fun w61 H locs hM hm => ?_)
          have hp_this : At13 G w61 b thrown changes errorAt failedAt isSaved v before saved past far (upd L4_scratch L4_x2.toNatClampNeg (v q23.toNatClampNeg)) best thenX thenY thenMet text line isLeft words wordAt textN hereP endP lineN isWrong isDoing := ⟨hm.keep (hp_this.1) (by omega), hm.keep (hp_this.2.1) (by omega), hm.keep (hp_this.2.2.1) (by omega), hm.keep (hp_this.2.2.2.1) (by omega), hm.keep (hp_this.2.2.2.2.1) (by omega), hm.keep (hp_this.2.2.2.2.2.1) (by omega), hm.1, hm.keep (hp_this.2.2.2.2.2.2.2.1) (by omega), hm.keep (hp_this.2.2.2.2.2.2.2.2.1) (by omega), hm.keep (hp_this.2.2.2.2.2.2.2.2.2.1) (by omega), hm.keep (hp_this.2.2.2.2.2.2.2.2.2.2.1) (by omega), hm.keep (hp_this.2.2.2.2.2.2.2.2.2.2.2.1) (by omega), hm.keep (hp_this.2.2.2.2.2.2.2.2.2.2.2.2) (by omega)⟩
          have hF := hF.tr (hm.fr (by omega) (by omega))
          refine lv_iinc (v := (L4_x2 + 1)) (lv' := [(2, .int (L4_x2 + 1)), (4, .int (v q23.toNatClampNeg)), (0, .ref b), (1, .int x1), (3, .int L4_x3)]) hx hb dX13_left_62 hl (k := 3) rfl rfl (by decide) rfl (fun ls hl => ?_)
          refine lv_iinc (v := (L4_x3 + 1)) (lv' := [(3, .int (L4_x3 + 1)), (2, .int (L4_x2 + 1)), (4, .int (v q23.toNatClampNeg)), (0, .ref b), (1, .int x1)]) hx hb dX13_left_65 hl (k := 4) rfl rfl (by decide) rfl (fun ls hl => ?_)
          refine lv_goto (tgt := 4) hx hb dX13_left_68 (by decide) ?_
          exact ih _ _ _ _ hf _ _ _ hM hp_this hF _ (lv_sub hl [3, 4, 1, 0] rfl) hk
        · rw [if_neg hcd] at hf
          refine lv_aload_n hx hb dX13_left_33 rfl (lv_at hl 1 rfl) ?_
          refine mm_get hC hM (k := 10) hp_this.1 rfl inAX13 (by decide) q7_15 rfl dX13_left_34 ?_
          refine lv_iload_n hx hb dX13_left_37 rfl (lv_at hl 3 rfl) ?_
          refine lv_iconst (v := 1) hx hb dX13_left_38 (by decide) ?_
          refine lv_isub hx hb dX13_left_39 ?_
          obtain ⟨hg40, hf⟩ := mm_gd hf
          refine mm_iald hC hM (hp_this.2.2.2.2.2.2.1) hg40 dX13_left_40 ?_
          refine lv_iload hx hb dX13_left_41 (lv_at hl 0 rfl) ?_
          refine lv_iconst (v := 1) hx hb dX13_left_43 (by decide) ?_
          refine lv_ixor hx hb dX13_left_44 ?_
          refine lv_icmp_ne (tgt := 54) hx hb dX13_left_45 (by decide) (fun hcd => ?_) (fun hcd => ?_)
          · rw [if_neg hcd] at hf
            refine lv_aload_n hx hb dX13_left_54 rfl (lv_at hl 1 rfl) ?_
            refine mm_get hC hM (k := 10) hp_this.1 rfl inAX13 (by decide) q7_15 rfl dX13_left_55 ?_
            refine lv_iload_n hx hb dX13_left_58 rfl (lv_at hl 3 rfl) ?_
            refine lv_iload hx hb dX13_left_59 (lv_at hl 0 rfl) ?_
            obtain ⟨hg61, hf⟩ := mm_gd hf
            refine mm_iast hC hM (hp_this.2.2.2.2.2.2.1) hg61 dX13_left_61 (fun w61 H locs hM hm => ?_)
            have hp_this : At13 G w61 b thrown changes errorAt failedAt isSaved v before saved past far (upd L4_scratch L4_x2.toNatClampNeg (v q23.toNatClampNeg)) best thenX thenY thenMet text line isLeft words wordAt textN hereP endP lineN isWrong isDoing := ⟨hm.keep (hp_this.1) (by omega), hm.keep (hp_this.2.1) (by omega), hm.keep (hp_this.2.2.1) (by omega), hm.keep (hp_this.2.2.2.1) (by omega), hm.keep (hp_this.2.2.2.2.1) (by omega), hm.keep (hp_this.2.2.2.2.2.1) (by omega), hm.1, hm.keep (hp_this.2.2.2.2.2.2.2.1) (by omega), hm.keep (hp_this.2.2.2.2.2.2.2.2.1) (by omega), hm.keep (hp_this.2.2.2.2.2.2.2.2.2.1) (by omega), hm.keep (hp_this.2.2.2.2.2.2.2.2.2.2.1) (by omega), hm.keep (hp_this.2.2.2.2.2.2.2.2.2.2.2.1) (by omega), hm.keep (hp_this.2.2.2.2.2.2.2.2.2.2.2.2) (by omega)⟩
            have hF := hF.tr (hm.fr (by omega) (by omega))
            refine lv_iinc (v := (L4_x2 + 1)) (lv' := [(2, .int (L4_x2 + 1)), (4, .int (v q23.toNatClampNeg)), (0, .ref b), (1, .int x1), (3, .int L4_x3)]) hx hb dX13_left_62 hl (k := 3) rfl rfl (by decide) rfl (fun ls hl => ?_)
            refine lv_iinc (v := (L4_x3 + 1)) (lv' := [(3, .int (L4_x3 + 1)), (2, .int (L4_x2 + 1)), (4, .int (v q23.toNatClampNeg)), (0, .ref b), (1, .int x1)]) hx hb dX13_left_65 hl (k := 4) rfl rfl (by decide) rfl (fun ls hl => ?_)
            refine lv_goto (tgt := 4) hx hb dX13_left_68 (by decide) ?_
            exact ih _ _ _ _ hf _ _ _ hM hp_this hF _ (lv_sub hl [3, 4, 1, 0] rfl) hk
          · rw [if_pos hcd] at hf
            refine lv_iinc (v := (L4_x2 + (-1))) (lv' := [(2, .int (L4_x2 + (-1))), (4, .int (v q23.toNatClampNeg)), (0, .ref b), (1, .int x1), (3, .int L4_x3)]) hx hb dX13_left_48 hl (k := 3) rfl rfl (by decide) rfl (fun ls hl => ?_)
            refine lv_goto (tgt := 65) hx hb dX13_left_51 (by decide) ?_
            refine lv_iinc (v := (L4_x3 + 1)) (lv' := [(3, .int (L4_x3 + 1)), (2, .int (L4_x2 + (-1))), (4, .int (v q23.toNatClampNeg)), (0, .ref b), (1, .int x1)]) hx hb dX13_left_65 hl (k := 4) rfl rfl (by decide) rfl (fun ls hl => ?_)
            refine lv_goto (tgt := 4) hx hb dX13_left_68 (by decide) ?_
            exact ih _ _ _ _ hf _ _ _ hM hp_this hF _ (lv_sub hl [3, 4, 1, 0] rfl) hk
  obtain ⟨q4, hq4, hf⟩ := mm_bd hf
  refine L4 K _ _ _ _ hq4 _ _ _ hM hp_this hF _ (lv_sub hl [2, 3, 1, 0] rfl) (fun w4 H locs hM hp_this hF ls hl => ?_)
  refine lv_iload_n hx hb dX13_left_71 rfl (lv_at hl 0 rfl) ?_
  cases hf
  exact hret hM dX13_left_72 rfl ⟨rfl, hp_this, hF⟩
def f_X13_reduces (K : Nat) (thrown : Int32) (v : Nat → Int32) (scratch : Nat → Int32) (x1 : Int32) : Option (Int32 × Int32 × (Nat → Int32) × (Nat → Int32)) := (f_X13_isPlan x1).bind fun q1 => if q1 = 0 then (f_X13_fail 1).bind fun q22 => some (q22.1, q22.2, v, scratch) else (f_X13_left K v scratch x1).bind fun q11 => (f_X13_becomes K v q11.2 x1 q11.1).bind fun q14 => some (q14.1, thrown, q14.2, q11.2)
set_option maxHeartbeats 4000000 in
set_option maxRecDepth 100000 in
theorem c_X13_reduces (l : Launch) {G : mm_G} {K : Nat} {w : va_W} {sz : Nat} {b : Nat} {thrown : Int32} {changes : Int32} {errorAt : Int32} {failedAt : Int32} {isSaved : Int32} {v : Nat → Int32} {before : Nat → Int32} {saved : Nat → Int32} {past : Nat → Int32} {far : Nat → Int32} {scratch : Nat → Int32} {best : Nat → Int32} {thenX : Int32} {thenY : Int32} {thenMet : Int32} {text : Nat → Int32} {line : Nat → Int32} {isLeft : Nat → Int32} {words : Nat → Int32} {wordAt : Nat → Int32} {textN : Int32} {hereP : Int32} {endP : Int32} {lineN : Int32} {isWrong : Int32} {isDoing : Int32} {x1 : Int32} {X : Int32 × Int32 × (Nat → Int32) × (Nat → Int32)} (hf : f_X13_reduces K thrown v scratch x1 = some X) (hp_this : At13 G w b thrown changes errorAt failedAt isSaved v before saved past far scratch best thenX thenY thenMet text line isLeft words wordAt textN hereP endP lineN isWrong isDoing) : Met l yX13_reduces (Cond.code yX13_reduces cX13_reduces 2 (some .int) :: gAll) ({ frames := 2, cells := 0, slots := 0, locals := 45 }) (va_Pc [.ref b, .int x1] (mm_Pre G w sz)) (mm_Qi G w sz (fun r w' => r = X.1 ∧ At13 G w' b X.2.1 changes errorAt failedAt isSaved X.2.2.1 before saved past far X.2.2.2 best thenX thenY thenMet text line isLeft words wordAt textN hereP endP lineN isWrong isDoing ∧ mm_fr w w' b (b + 13))) 0 0 (va_A w sz) := by
  refine mm_headI [.ref b, .int x1] (by decide +kernel) rfl (Nat.le_of_ble_eq_true rfl) ?_
  intro p e s m args below meth c A Q hsz hC hM hret ls hl
  have hx := hC.1.1
  have hb := hC.1.2.1
  have hl : lv_has ls 2 [(0, .ref b), (1, .int x1)] := hl
  have hF : mm_fr w w b (b + 13) := mm_fr.rf
  rw [f_X13_reduces] at hf
  refine lv_iload_n hx hb dX13_reduces_0 rfl (lv_at hl 1 rfl) ?_
  obtain ⟨q1, hq1, hf⟩ := mm_bd hf
  refine mm_Si (rest := []) hC hM (c_X13_isPlan l hq1) q8_28 q1_12 ykX13_isPlan q8_26 q8_27 ⟨rfl, rfl⟩ ⟨Nat.le_of_ble_eq_true rfl, Nat.le_of_ble_eq_true rfl⟩ rfl hl.1 rfl (Nat.le_of_ble_eq_true rfl) dX13_reduces_1 ⟨Nat.le_of_ble_eq_true rfl, Nat.le_of_ble_eq_true rfl⟩ (fun r w1 H locs hM hw => ?_)
  obtain ⟨hr, hw⟩ := hw
  rw [hr]
  rw [hw] at hM
  refine lv_if_eq (tgt := 20) hx hb dX13_reduces_4 (by decide) (fun hcd => ?_) (fun hcd => ?_)
  · rw [if_pos hcd] at hf
    refine lv_aload_n hx hb dX13_reduces_20 rfl (lv_at hl 0 rfl) ?_
    refine lv_iconst (v := 1) hx hb dX13_reduces_21 (by decide) ?_
    obtain ⟨q22, hq22, hf⟩ := mm_bd hf
    refine mm_Vi (rest := []) hC hM (c_X13_fail l hq22 hp_this) q7_112 q1_12 ykX13_fail q7_109 q7_111 qp_bcc4f98e hp_this.1 rfl ⟨rfl, rfl⟩ ⟨Nat.le_of_ble_eq_true rfl, Nat.le_of_ble_eq_true rfl⟩ rfl hl.1 rfl (Nat.le_of_ble_eq_true rfl) dX13_reduces_22 ⟨Nat.le_of_ble_eq_true rfl, Nat.le_of_ble_eq_true rfl⟩ (fun r w22 H locs hM hw => ?_)
    obtain ⟨hr, hn_this, hfr⟩ := hw
    rw [hr]
    have hp_this := hn_this
    have hF := hF.tr (hfr.wide (by omega) (by omega))
    cases hf
    exact hret hM dX13_reduces_25 rfl ⟨rfl, hp_this, hF⟩
  · rw [if_neg hcd] at hf
    refine lv_aload_n hx hb dX13_reduces_7 rfl (lv_at hl 0 rfl) ?_
    refine lv_iload_n hx hb dX13_reduces_8 rfl (lv_at hl 1 rfl) ?_
    refine lv_aload_n hx hb dX13_reduces_9 rfl (lv_at hl 0 rfl) ?_
    refine lv_iload_n hx hb dX13_reduces_10 rfl (lv_at hl 1 rfl) ?_
    obtain ⟨q11, hq11, hf⟩ := mm_bd hf
    refine mm_Vi (rest := [.int x1, .ref b]) hC hM (c_X13_left l hq11 hp_this) q8_74 q1_12 ykX13_left q8_71 q8_73 qp_4f34de8f hp_this.1 rfl ⟨rfl, rfl⟩ ⟨Nat.le_of_ble_eq_true rfl, Nat.le_of_ble_eq_true rfl⟩ rfl hl.1 rfl (Nat.le_of_ble_eq_true rfl) dX13_reduces_11 ⟨Nat.le_of_ble_eq_true rfl, Nat.le_of_ble_eq_true rfl⟩ (fun r w11 H locs hM hw => ?_)
    obtain ⟨hr, hn_this, hfr⟩ := hw
    rw [hr]
    have hp_this := hn_this
    have hF := hF.tr (hfr.wide (by omega) (by omega))
    obtain ⟨q14, hq14, hf⟩ := mm_bd hf
    refine mm_Vi (rest := []) hC hM (c_X13_becomes l hq14 hp_this) q8_54 q1_12 ykX13_becomes q8_51 q8_53 qp_0d901908 hp_this.1 rfl ⟨rfl, rfl⟩ ⟨Nat.le_of_ble_eq_true rfl, Nat.le_of_ble_eq_true rfl⟩ rfl hl.1 rfl (Nat.le_of_ble_eq_true rfl) dX13_reduces_14 ⟨Nat.le_of_ble_eq_true rfl, Nat.le_of_ble_eq_true rfl⟩ (fun r w14 H locs hM hw => ?_)
    obtain ⟨hr, hn_this, hfr⟩ := hw
    rw [hr]
    have hp_this := hn_this
    have hF := hF.tr (hfr.wide (by omega) (by omega))
    refine lv_goto (tgt := 25) hx hb dX13_reduces_17 (by decide) ?_
    cases hf
    exact hret hM dX13_reduces_25 rfl ⟨rfl, hp_this, hF⟩
def f_X13_reduce (K : Nat) (changes : Int32) (v : Nat → Int32) (before : Nat → Int32) (past : Nat → Int32) (scratch : Nat → Int32) (x1 : Int32) : Option (Int32 × Int32 × Int32 × (Nat → Int32) × (Nat → Int32) × (Nat → Int32) × (Nat → Int32)) := (f_X13_begins K v before).bind fun q1 => (f_X13_reduces K q1.1 v scratch x1).bind fun q7 => (f_X13_ends K q7.2.1 changes q7.2.2.1 q1.2 past q7.1).bind fun q10 => some (q10.1, q7.2.1, q10.2.1, q10.2.2.1, q1.2, q10.2.2.2, q7.2.2.2)
set_option maxHeartbeats 4000000 in
set_option maxRecDepth 100000 in
theorem c_X13_reduce (l : Launch) {G : mm_G} {K : Nat} {w : va_W} {sz : Nat} {b : Nat} {thrown : Int32} {changes : Int32} {errorAt : Int32} {failedAt : Int32} {isSaved : Int32} {v : Nat → Int32} {before : Nat → Int32} {saved : Nat → Int32} {past : Nat → Int32} {far : Nat → Int32} {scratch : Nat → Int32} {best : Nat → Int32} {thenX : Int32} {thenY : Int32} {thenMet : Int32} {text : Nat → Int32} {line : Nat → Int32} {isLeft : Nat → Int32} {words : Nat → Int32} {wordAt : Nat → Int32} {textN : Int32} {hereP : Int32} {endP : Int32} {lineN : Int32} {isWrong : Int32} {isDoing : Int32} {x1 : Int32} {X : Int32 × Int32 × Int32 × (Nat → Int32) × (Nat → Int32) × (Nat → Int32) × (Nat → Int32)} (hf : f_X13_reduce K changes v before past scratch x1 = some X) (hp_this : At13 G w b thrown changes errorAt failedAt isSaved v before saved past far scratch best thenX thenY thenMet text line isLeft words wordAt textN hereP endP lineN isWrong isDoing) : Met l yX13_reduce (Cond.code yX13_reduce cX13_reduce 2 (some .int) :: gAll) ({ frames := 3, cells := 0, slots := 0, locals := 66 }) (va_Pc [.ref b, .int x1] (mm_Pre G w sz)) (mm_Qi G w sz (fun r w' => r = X.1 ∧ At13 G w' b X.2.1 X.2.2.1 errorAt failedAt isSaved X.2.2.2.1 X.2.2.2.2.1 saved X.2.2.2.2.2.1 far X.2.2.2.2.2.2 best thenX thenY thenMet text line isLeft words wordAt textN hereP endP lineN isWrong isDoing ∧ mm_fr w w' b (b + 13))) 0 0 (va_A w sz) := by
  refine mm_headI [.ref b, .int x1] (by decide +kernel) rfl (Nat.le_of_ble_eq_true rfl) ?_
  intro p e s m args below meth c A Q hsz hC hM hret ls hl
  have hx := hC.1.1
  have hb := hC.1.2.1
  have hl : lv_has ls 2 [(0, .ref b), (1, .int x1)] := hl
  have hF : mm_fr w w b (b + 13) := mm_fr.rf
  rw [f_X13_reduce] at hf
  refine lv_aload_n hx hb dX13_reduce_0 rfl (lv_at hl 0 rfl) ?_
  obtain ⟨q1, hq1, hf⟩ := mm_bd hf
  refine mm_Vv (rest := []) hC hM (c_X13_begins l hq1 hp_this) q7_95 q1_12 ykX13_begins q7_92 q7_94 qp_0e68fe50 hp_this.1 rfl ⟨rfl, rfl⟩ ⟨Nat.le_of_ble_eq_true rfl, Nat.le_of_ble_eq_true rfl⟩ rfl hl.1 rfl (Nat.le_of_ble_eq_true rfl) dX13_reduce_1 ⟨Nat.le_of_ble_eq_true rfl, Nat.le_of_ble_eq_true rfl⟩ (fun w1 H locs hM hw => ?_)
  obtain ⟨hn_this, hfr⟩ := hw
  have hp_this := hn_this
  have hF := hF.tr (hfr.wide (by omega) (by omega))
  refine lv_aload_n hx hb dX13_reduce_4 rfl (lv_at hl 0 rfl) ?_
  refine lv_aload_n hx hb dX13_reduce_5 rfl (lv_at hl 0 rfl) ?_
  refine lv_iload_n hx hb dX13_reduce_6 rfl (lv_at hl 1 rfl) ?_
  obtain ⟨q7, hq7, hf⟩ := mm_bd hf
  refine mm_Vi (rest := [.ref b]) hC hM (c_X13_reduces l hq7 hp_this) q8_70 q1_12 ykX13_reduces q8_67 q8_69 qp_ab96aab1 hp_this.1 rfl ⟨rfl, rfl⟩ ⟨Nat.le_of_ble_eq_true rfl, Nat.le_of_ble_eq_true rfl⟩ rfl hl.1 rfl (Nat.le_of_ble_eq_true rfl) dX13_reduce_7 ⟨Nat.le_of_ble_eq_true rfl, Nat.le_of_ble_eq_true rfl⟩ (fun r w7 H locs hM hw => ?_)
  obtain ⟨hr, hn_this, hfr⟩ := hw
  rw [hr]
  have hp_this := hn_this
  have hF := hF.tr (hfr.wide (by omega) (by omega))
  obtain ⟨q10, hq10, hf⟩ := mm_bd hf
  refine mm_Vi (rest := []) hC hM (c_X13_ends l hq10 hp_this) q7_133 q1_12 ykX13_ends q7_130 q7_132 qp_952383d2 hp_this.1 rfl ⟨rfl, rfl⟩ ⟨Nat.le_of_ble_eq_true rfl, Nat.le_of_ble_eq_true rfl⟩ rfl hl.1 rfl (Nat.le_of_ble_eq_true rfl) dX13_reduce_10 ⟨Nat.le_of_ble_eq_true rfl, Nat.le_of_ble_eq_true rfl⟩ (fun r w10 H locs hM hw => ?_)
  obtain ⟨hr, hn_this, hfr⟩ := hw
  rw [hr]
  have hp_this := hn_this
  have hF := hF.tr (hfr.wide (by omega) (by omega))
  cases hf
  exact hret hM dX13_reduce_13 rfl ⟨rfl, hp_this, hF⟩
def f_X13_reducedLength (K : Nat) (v : Nat → Int32) (scratch : Nat → Int32) (x1 : Int32) : Option (Int32 × Int32 × (Nat → Int32)) := (f_X13_isPlan x1).bind fun q2 => if q2 = 0 then some (0, 1, scratch) else (f_X13_left K v scratch x1).bind fun q25 => some (q25.1, 0, q25.2)
set_option maxHeartbeats 4000000 in
set_option maxRecDepth 100000 in
theorem c_X13_reducedLength (l : Launch) {G : mm_G} {K : Nat} {w : va_W} {sz : Nat} {b : Nat} {thrown : Int32} {changes : Int32} {errorAt : Int32} {failedAt : Int32} {isSaved : Int32} {v : Nat → Int32} {before : Nat → Int32} {saved : Nat → Int32} {past : Nat → Int32} {far : Nat → Int32} {scratch : Nat → Int32} {best : Nat → Int32} {thenX : Int32} {thenY : Int32} {thenMet : Int32} {text : Nat → Int32} {line : Nat → Int32} {isLeft : Nat → Int32} {words : Nat → Int32} {wordAt : Nat → Int32} {textN : Int32} {hereP : Int32} {endP : Int32} {lineN : Int32} {isWrong : Int32} {isDoing : Int32} {x1 : Int32} {X : Int32 × Int32 × (Nat → Int32)} (hf : f_X13_reducedLength K v scratch x1 = some X) (hp_this : At13 G w b thrown changes errorAt failedAt isSaved v before saved past far scratch best thenX thenY thenMet text line isLeft words wordAt textN hereP endP lineN isWrong isDoing) : Met l yX13_reducedLength (Cond.code yX13_reducedLength cX13_reducedLength 2 (some .int) :: gAll) ({ frames := 2, cells := 0, slots := 0, locals := 45 }) (va_Pc [.ref b, .int x1] (mm_Pre G w sz)) (mm_Qi G w sz (fun r w' => r = X.1 ∧ At13 G w' b X.2.1 changes errorAt failedAt isSaved v before saved past far X.2.2 best thenX thenY thenMet text line isLeft words wordAt textN hereP endP lineN isWrong isDoing ∧ mm_fr w w' b (b + 13))) 0 0 (va_A w sz) := by
  refine mm_headI [.ref b, .int x1] (by decide +kernel) rfl (Nat.le_of_ble_eq_true rfl) ?_
  intro p e s m args below meth c A Q hsz hC hM hret ls hl
  have hx := hC.1.1
  have hb := hC.1.2.1
  have hl : lv_has ls 2 [(0, .ref b), (1, .int x1)] := hl
  have hF : mm_fr w w b (b + 13) := mm_fr.rf
  rw [f_X13_reducedLength] at hf
  refine lv_aload_n hx hb dX13_reducedLength_0 rfl (lv_at hl 0 rfl) ?_
  refine lv_iload_n hx hb dX13_reducedLength_1 rfl (lv_at hl 1 rfl) ?_
  obtain ⟨q2, hq2, hf⟩ := mm_bd hf
  refine mm_Si (rest := [.ref b]) hC hM (c_X13_isPlan l hq2) q8_28 q1_12 ykX13_isPlan q8_26 q8_27 ⟨rfl, rfl⟩ ⟨Nat.le_of_ble_eq_true rfl, Nat.le_of_ble_eq_true rfl⟩ rfl hl.1 rfl (Nat.le_of_ble_eq_true rfl) dX13_reducedLength_2 ⟨Nat.le_of_ble_eq_true rfl, Nat.le_of_ble_eq_true rfl⟩ (fun r w2 H locs hM hw => ?_)
  obtain ⟨hr, hw⟩ := hw
  rw [hr]
  rw [hw] at hM
  refine lv_if_eq (tgt := 12) hx hb dX13_reducedLength_5 (by decide) (fun hcd => ?_) (fun hcd => ?_)
  · rw [if_pos hcd] at hf
    refine lv_iconst (v := 1) hx hb dX13_reducedLength_12 (by decide) ?_
    refine mm_put hC hM (k := 0) tyX13 hp_this.1 rfl inAX13 tyX13_ok nmX13 (by decide) q7_5 rfl rfl rfl rfl (Nat.le_of_ble_eq_true rfl) dX13_reducedLength_13 (fun w13 H locs hM hm => ?_)
    have hp_this : At13 G w13 b 1 changes errorAt failedAt isSaved v before saved past far scratch best thenX thenY thenMet text line isLeft words wordAt textN hereP endP lineN isWrong isDoing := ⟨hm.1, hm.keep (hp_this.2.1) (by omega), hm.keep (hp_this.2.2.1) (by omega), hm.keep (hp_this.2.2.2.1) (by omega), hm.keep (hp_this.2.2.2.2.1) (by omega), hm.keep (hp_this.2.2.2.2.2.1) (by omega), hm.keep (hp_this.2.2.2.2.2.2.1) (by omega), hm.keep (hp_this.2.2.2.2.2.2.2.1) (by omega), hm.keep (hp_this.2.2.2.2.2.2.2.2.1) (by omega), hm.keep (hp_this.2.2.2.2.2.2.2.2.2.1) (by omega), hm.keep (hp_this.2.2.2.2.2.2.2.2.2.2.1) (by omega), hm.keep (hp_this.2.2.2.2.2.2.2.2.2.2.2.1) (by omega), hm.keep (hp_this.2.2.2.2.2.2.2.2.2.2.2.2) (by omega)⟩
    have hF := hF.tr (hm.fr (by omega) (by omega))
    refine lv_aload_n hx hb dX13_reducedLength_16 rfl (lv_at hl 0 rfl) ?_
    refine mm_get hC hM (k := 0) hp_this.1 rfl inAX13 (by decide) q7_5 rfl dX13_reducedLength_17 ?_
    refine lv_if_ne (tgt := 31) hx hb dX13_reducedLength_20 (by decide) (fun _ => ?_) (fun c => absurd c (by decide))
    refine lv_iconst (v := 0) hx hb dX13_reducedLength_31 (by decide) ?_
    cases hf
    exact hret hM dX13_reducedLength_32 rfl ⟨rfl, hp_this, hF⟩
  · rw [if_neg hcd] at hf
    refine lv_iconst (v := 0) hx hb dX13_reducedLength_8 (by decide) ?_
    refine lv_goto (tgt := 13) hx hb dX13_reducedLength_9 (by decide) ?_
    refine mm_put hC hM (k := 0) tyX13 hp_this.1 rfl inAX13 tyX13_ok nmX13 (by decide) q7_5 rfl rfl rfl rfl (Nat.le_of_ble_eq_true rfl) dX13_reducedLength_13 (fun w13 H locs hM hm => ?_)
    have hp_this : At13 G w13 b 0 changes errorAt failedAt isSaved v before saved past far scratch best thenX thenY thenMet text line isLeft words wordAt textN hereP endP lineN isWrong isDoing := ⟨hm.1, hm.keep (hp_this.2.1) (by omega), hm.keep (hp_this.2.2.1) (by omega), hm.keep (hp_this.2.2.2.1) (by omega), hm.keep (hp_this.2.2.2.2.1) (by omega), hm.keep (hp_this.2.2.2.2.2.1) (by omega), hm.keep (hp_this.2.2.2.2.2.2.1) (by omega), hm.keep (hp_this.2.2.2.2.2.2.2.1) (by omega), hm.keep (hp_this.2.2.2.2.2.2.2.2.1) (by omega), hm.keep (hp_this.2.2.2.2.2.2.2.2.2.1) (by omega), hm.keep (hp_this.2.2.2.2.2.2.2.2.2.2.1) (by omega), hm.keep (hp_this.2.2.2.2.2.2.2.2.2.2.2.1) (by omega), hm.keep (hp_this.2.2.2.2.2.2.2.2.2.2.2.2) (by omega)⟩
    have hF := hF.tr (hm.fr (by omega) (by omega))
    refine lv_aload_n hx hb dX13_reducedLength_16 rfl (lv_at hl 0 rfl) ?_
    refine mm_get hC hM (k := 0) hp_this.1 rfl inAX13 (by decide) q7_5 rfl dX13_reducedLength_17 ?_
    refine lv_if_ne (tgt := 31) hx hb dX13_reducedLength_20 (by decide) (fun c => absurd (by decide) c) (fun _ => ?_)
    refine lv_aload_n hx hb dX13_reducedLength_23 rfl (lv_at hl 0 rfl) ?_
    refine lv_iload_n hx hb dX13_reducedLength_24 rfl (lv_at hl 1 rfl) ?_
    obtain ⟨q25, hq25, hf⟩ := mm_bd hf
    refine mm_Vi (rest := []) hC hM (c_X13_left l hq25 hp_this) q8_74 q1_12 ykX13_left q8_71 q8_73 qp_4f34de8f hp_this.1 rfl ⟨rfl, rfl⟩ ⟨Nat.le_of_ble_eq_true rfl, Nat.le_of_ble_eq_true rfl⟩ rfl hl.1 rfl (Nat.le_of_ble_eq_true rfl) dX13_reducedLength_25 ⟨Nat.le_of_ble_eq_true rfl, Nat.le_of_ble_eq_true rfl⟩ (fun r w25 H locs hM hw => ?_)
    obtain ⟨hr, hn_this, hfr⟩ := hw
    rw [hr]
    have hp_this := hn_this
    have hF := hF.tr (hfr.wide (by omega) (by omega))
    refine lv_goto (tgt := 32) hx hb dX13_reducedLength_28 (by decide) ?_
    cases hf
    exact hret hM dX13_reducedLength_32 rfl ⟨rfl, hp_this, hF⟩
def f_X13_planLength (v : Nat → Int32) (x1 : Int32) : Option (Int32 × Int32) := (f_X13_isPlan x1).bind fun q2 => if q2 = 0 then some (0, 1) else mm_g (mm_ck (104 + x1) 238) (some ((v (104 + x1).toNatClampNeg), 0))
set_option maxHeartbeats 4000000 in
set_option maxRecDepth 100000 in
theorem c_X13_planLength (l : Launch) {G : mm_G} {w : va_W} {sz : Nat} {b : Nat} {thrown : Int32} {changes : Int32} {errorAt : Int32} {failedAt : Int32} {isSaved : Int32} {v : Nat → Int32} {before : Nat → Int32} {saved : Nat → Int32} {past : Nat → Int32} {far : Nat → Int32} {scratch : Nat → Int32} {best : Nat → Int32} {thenX : Int32} {thenY : Int32} {thenMet : Int32} {text : Nat → Int32} {line : Nat → Int32} {isLeft : Nat → Int32} {words : Nat → Int32} {wordAt : Nat → Int32} {textN : Int32} {hereP : Int32} {endP : Int32} {lineN : Int32} {isWrong : Int32} {isDoing : Int32} {x1 : Int32} {X : Int32 × Int32} (hf : f_X13_planLength v x1 = some X) (hp_this : At13 G w b thrown changes errorAt failedAt isSaved v before saved past far scratch best thenX thenY thenMet text line isLeft words wordAt textN hereP endP lineN isWrong isDoing) : Met l yX13_planLength (Cond.code yX13_planLength cX13_planLength 2 (some .int) :: gAll) ({ frames := 2, cells := 0, slots := 0, locals := 42 }) (va_Pc [.ref b, .int x1] (mm_Pre G w sz)) (mm_Qi G w sz (fun r w' => r = X.1 ∧ At13 G w' b X.2 changes errorAt failedAt isSaved v before saved past far scratch best thenX thenY thenMet text line isLeft words wordAt textN hereP endP lineN isWrong isDoing ∧ mm_fr w w' b (b + 13))) 0 0 (va_A w sz) := by
  refine mm_headI [.ref b, .int x1] (by decide +kernel) rfl (Nat.le_of_ble_eq_true rfl) ?_
  intro p e s m args below meth c A Q hsz hC hM hret ls hl
  have hx := hC.1.1
  have hb := hC.1.2.1
  have hl : lv_has ls 2 [(0, .ref b), (1, .int x1)] := hl
  have hF : mm_fr w w b (b + 13) := mm_fr.rf
  rw [f_X13_planLength] at hf
  refine lv_aload_n hx hb dX13_planLength_0 rfl (lv_at hl 0 rfl) ?_
  refine lv_iload_n hx hb dX13_planLength_1 rfl (lv_at hl 1 rfl) ?_
  obtain ⟨q2, hq2, hf⟩ := mm_bd hf
  refine mm_Si (rest := [.ref b]) hC hM (c_X13_isPlan l hq2) q8_28 q1_12 ykX13_isPlan q8_26 q8_27 ⟨rfl, rfl⟩ ⟨Nat.le_of_ble_eq_true rfl, Nat.le_of_ble_eq_true rfl⟩ rfl hl.1 rfl (Nat.le_of_ble_eq_true rfl) dX13_planLength_2 ⟨Nat.le_of_ble_eq_true rfl, Nat.le_of_ble_eq_true rfl⟩ (fun r w2 H locs hM hw => ?_)
  obtain ⟨hr, hw⟩ := hw
  rw [hr]
  rw [hw] at hM
  refine lv_if_eq (tgt := 12) hx hb dX13_planLength_5 (by decide) (fun hcd => ?_) (fun hcd => ?_)
  · rw [if_pos hcd] at hf
    refine lv_iconst (v := 1) hx hb dX13_planLength_12 (by decide) ?_
    refine mm_put hC hM (k := 0) tyX13 hp_this.1 rfl inAX13 tyX13_ok nmX13 (by decide) q7_5 rfl rfl rfl rfl (Nat.le_of_ble_eq_true rfl) dX13_planLength_13 (fun w13 H locs hM hm => ?_)
    have hp_this : At13 G w13 b 1 changes errorAt failedAt isSaved v before saved past far scratch best thenX thenY thenMet text line isLeft words wordAt textN hereP endP lineN isWrong isDoing := ⟨hm.1, hm.keep (hp_this.2.1) (by omega), hm.keep (hp_this.2.2.1) (by omega), hm.keep (hp_this.2.2.2.1) (by omega), hm.keep (hp_this.2.2.2.2.1) (by omega), hm.keep (hp_this.2.2.2.2.2.1) (by omega), hm.keep (hp_this.2.2.2.2.2.2.1) (by omega), hm.keep (hp_this.2.2.2.2.2.2.2.1) (by omega), hm.keep (hp_this.2.2.2.2.2.2.2.2.1) (by omega), hm.keep (hp_this.2.2.2.2.2.2.2.2.2.1) (by omega), hm.keep (hp_this.2.2.2.2.2.2.2.2.2.2.1) (by omega), hm.keep (hp_this.2.2.2.2.2.2.2.2.2.2.2.1) (by omega), hm.keep (hp_this.2.2.2.2.2.2.2.2.2.2.2.2) (by omega)⟩
    have hF := hF.tr (hm.fr (by omega) (by omega))
    refine lv_aload_n hx hb dX13_planLength_16 rfl (lv_at hl 0 rfl) ?_
    refine mm_get hC hM (k := 0) hp_this.1 rfl inAX13 (by decide) q7_5 rfl dX13_planLength_17 ?_
    refine lv_if_ne (tgt := 35) hx hb dX13_planLength_20 (by decide) (fun _ => ?_) (fun c => absurd c (by decide))
    refine lv_iconst (v := 0) hx hb dX13_planLength_35 (by decide) ?_
    cases hf
    exact hret hM dX13_planLength_36 rfl ⟨rfl, hp_this, hF⟩
  · rw [if_neg hcd] at hf
    refine lv_iconst (v := 0) hx hb dX13_planLength_8 (by decide) ?_
    refine lv_goto (tgt := 13) hx hb dX13_planLength_9 (by decide) ?_
    refine mm_put hC hM (k := 0) tyX13 hp_this.1 rfl inAX13 tyX13_ok nmX13 (by decide) q7_5 rfl rfl rfl rfl (Nat.le_of_ble_eq_true rfl) dX13_planLength_13 (fun w13 H locs hM hm => ?_)
    have hp_this : At13 G w13 b 0 changes errorAt failedAt isSaved v before saved past far scratch best thenX thenY thenMet text line isLeft words wordAt textN hereP endP lineN isWrong isDoing := ⟨hm.1, hm.keep (hp_this.2.1) (by omega), hm.keep (hp_this.2.2.1) (by omega), hm.keep (hp_this.2.2.2.1) (by omega), hm.keep (hp_this.2.2.2.2.1) (by omega), hm.keep (hp_this.2.2.2.2.2.1) (by omega), hm.keep (hp_this.2.2.2.2.2.2.1) (by omega), hm.keep (hp_this.2.2.2.2.2.2.2.1) (by omega), hm.keep (hp_this.2.2.2.2.2.2.2.2.1) (by omega), hm.keep (hp_this.2.2.2.2.2.2.2.2.2.1) (by omega), hm.keep (hp_this.2.2.2.2.2.2.2.2.2.2.1) (by omega), hm.keep (hp_this.2.2.2.2.2.2.2.2.2.2.2.1) (by omega), hm.keep (hp_this.2.2.2.2.2.2.2.2.2.2.2.2) (by omega)⟩
    have hF := hF.tr (hm.fr (by omega) (by omega))
    refine lv_aload_n hx hb dX13_planLength_16 rfl (lv_at hl 0 rfl) ?_
    refine mm_get hC hM (k := 0) hp_this.1 rfl inAX13 (by decide) q7_5 rfl dX13_planLength_17 ?_
    refine lv_if_ne (tgt := 35) hx hb dX13_planLength_20 (by decide) (fun c => absurd (by decide) c) (fun _ => ?_)
    refine lv_aload_n hx hb dX13_planLength_23 rfl (lv_at hl 0 rfl) ?_
    refine mm_get hC hM (k := 5) hp_this.1 rfl inAX13 (by decide) q7_10 rfl dX13_planLength_24 ?_
    refine lv_bipush (v := 104) hx hb dX13_planLength_27 (by decide) ?_
    refine lv_iload_n hx hb dX13_planLength_29 rfl (lv_at hl 1 rfl) ?_
    refine lv_iadd hx hb dX13_planLength_30 ?_
    obtain ⟨hg31, hf⟩ := mm_gd hf
    refine mm_iald hC hM (hp_this.2.1) hg31 dX13_planLength_31 ?_
    refine lv_goto (tgt := 36) hx hb dX13_planLength_32 (by decide) ?_
    cases hf
    exact hret hM dX13_planLength_36 rfl ⟨rfl, hp_this, hF⟩
def f_X13_moveAt (v : Nat → Int32) (x1 : Int32) (x2 : Int32) : Option (Int32 × Int32) := (f_X13_isPlan x1).bind fun q2 => if q2 = 0 then some (97, 1) else mm_g (mm_ck (104 + x1) 238) ((f_X13_isIn x2 0 ((v (104 + x1).toNatClampNeg) - 1)).bind fun q25 => if q25 = 0 then some (97, 2) else (f_X13_at x1 x2).bind fun q52 => mm_g (mm_ck q52 238) ((f_X13_letter (v q52.toNatClampNeg)).bind fun q56 => some ((q56.toUInt32 % 65536).toInt32, 0)))
set_option maxHeartbeats 4000000 in
set_option maxRecDepth 100000 in
theorem c_X13_moveAt (l : Launch) {G : mm_G} {w : va_W} {sz : Nat} {b : Nat} {thrown : Int32} {changes : Int32} {errorAt : Int32} {failedAt : Int32} {isSaved : Int32} {v : Nat → Int32} {before : Nat → Int32} {saved : Nat → Int32} {past : Nat → Int32} {far : Nat → Int32} {scratch : Nat → Int32} {best : Nat → Int32} {thenX : Int32} {thenY : Int32} {thenMet : Int32} {text : Nat → Int32} {line : Nat → Int32} {isLeft : Nat → Int32} {words : Nat → Int32} {wordAt : Nat → Int32} {textN : Int32} {hereP : Int32} {endP : Int32} {lineN : Int32} {isWrong : Int32} {isDoing : Int32} {x1 : Int32} {x2 : Int32} {X : Int32 × Int32} (hf : f_X13_moveAt v x1 x2 = some X) (hp_this : At13 G w b thrown changes errorAt failedAt isSaved v before saved past far scratch best thenX thenY thenMet text line isLeft words wordAt textN hereP endP lineN isWrong isDoing) : Met l yX13_moveAt (Cond.code yX13_moveAt cX13_moveAt 3 (some .char) :: gAll) ({ frames := 2, cells := 0, slots := 0, locals := 42 }) (va_Pc [.ref b, .int x1, .int x2] (mm_Pre G w sz)) (mm_Qi G w sz (fun r w' => r = X.1 ∧ At13 G w' b X.2 changes errorAt failedAt isSaved v before saved past far scratch best thenX thenY thenMet text line isLeft words wordAt textN hereP endP lineN isWrong isDoing ∧ mm_fr w w' b (b + 13))) 0 0 (va_A w sz) := by
  refine mm_headI [.ref b, .int x1, .int x2] (by decide +kernel) rfl (Nat.le_of_ble_eq_true rfl) ?_
  intro p e s m args below meth c A Q hsz hC hM hret ls hl
  have hx := hC.1.1
  have hb := hC.1.2.1
  have hl : lv_has ls 3 [(0, .ref b), (1, .int x1), (2, .int x2)] := hl
  have hF : mm_fr w w b (b + 13) := mm_fr.rf
  rw [f_X13_moveAt] at hf
  refine lv_aload_n hx hb dX13_moveAt_0 rfl (lv_at hl 0 rfl) ?_
  refine lv_iload_n hx hb dX13_moveAt_1 rfl (lv_at hl 1 rfl) ?_
  obtain ⟨q2, hq2, hf⟩ := mm_bd hf
  refine mm_Si (rest := [.ref b]) hC hM (c_X13_isPlan l hq2) q8_28 q1_12 ykX13_isPlan q8_26 q8_27 ⟨rfl, rfl⟩ ⟨Nat.le_of_ble_eq_true rfl, Nat.le_of_ble_eq_true rfl⟩ rfl hl.1 rfl (Nat.le_of_ble_eq_true rfl) dX13_moveAt_2 ⟨Nat.le_of_ble_eq_true rfl, Nat.le_of_ble_eq_true rfl⟩ (fun r w2 H locs hM hw => ?_)
  obtain ⟨hr, hw⟩ := hw
  rw [hr]
  rw [hw] at hM
  refine lv_if_ne (tgt := 12) hx hb dX13_moveAt_5 (by decide) (fun hcd => ?_) (fun hcd => ?_)
  · rw [if_neg hcd] at hf
    refine lv_iload_n hx hb dX13_moveAt_12 rfl (lv_at hl 2 rfl) ?_
    refine lv_iconst (v := 0) hx hb dX13_moveAt_13 (by decide) ?_
    refine lv_aload_n hx hb dX13_moveAt_14 rfl (lv_at hl 0 rfl) ?_
    refine mm_get hC hM (k := 5) hp_this.1 rfl inAX13 (by decide) q7_10 rfl dX13_moveAt_15 ?_
    refine lv_bipush (v := 104) hx hb dX13_moveAt_18 (by decide) ?_
    refine lv_iload_n hx hb dX13_moveAt_20 rfl (lv_at hl 1 rfl) ?_
    refine lv_iadd hx hb dX13_moveAt_21 ?_
    obtain ⟨hg22, hf⟩ := mm_gd hf
    refine mm_iald hC hM (hp_this.2.1) hg22 dX13_moveAt_22 ?_
    refine lv_iconst (v := 1) hx hb dX13_moveAt_23 (by decide) ?_
    refine lv_isub hx hb dX13_moveAt_24 ?_
    obtain ⟨q25, hq25, hf⟩ := mm_bd hf
    refine mm_Si (rest := [.ref b]) hC hM (c_X13_isIn l hq25) q7_108 q1_12 ykX13_isIn q7_106 q7_107 ⟨rfl, rfl⟩ ⟨Nat.le_of_ble_eq_true rfl, Nat.le_of_ble_eq_true rfl⟩ rfl hl.1 rfl (Nat.le_of_ble_eq_true rfl) dX13_moveAt_25 ⟨Nat.le_of_ble_eq_true rfl, Nat.le_of_ble_eq_true rfl⟩ (fun r w25 H locs hM hw => ?_)
    obtain ⟨hr, hw⟩ := hw
    rw [hr]
    rw [hw] at hM
    refine lv_if_eq (tgt := 35) hx hb dX13_moveAt_28 (by decide) (fun hcd => ?_) (fun hcd => ?_)
    · rw [if_pos hcd] at hf
      refine lv_iconst (v := 2) hx hb dX13_moveAt_35 (by decide) ?_
      refine mm_put hC hM (k := 0) tyX13 hp_this.1 rfl inAX13 tyX13_ok nmX13 (by decide) q7_5 rfl rfl rfl rfl (Nat.le_of_ble_eq_true rfl) dX13_moveAt_36 (fun w36 H locs hM hm => ?_)
      have hp_this : At13 G w36 b 2 changes errorAt failedAt isSaved v before saved past far scratch best thenX thenY thenMet text line isLeft words wordAt textN hereP endP lineN isWrong isDoing := ⟨hm.1, hm.keep (hp_this.2.1) (by omega), hm.keep (hp_this.2.2.1) (by omega), hm.keep (hp_this.2.2.2.1) (by omega), hm.keep (hp_this.2.2.2.2.1) (by omega), hm.keep (hp_this.2.2.2.2.2.1) (by omega), hm.keep (hp_this.2.2.2.2.2.2.1) (by omega), hm.keep (hp_this.2.2.2.2.2.2.2.1) (by omega), hm.keep (hp_this.2.2.2.2.2.2.2.2.1) (by omega), hm.keep (hp_this.2.2.2.2.2.2.2.2.2.1) (by omega), hm.keep (hp_this.2.2.2.2.2.2.2.2.2.2.1) (by omega), hm.keep (hp_this.2.2.2.2.2.2.2.2.2.2.2.1) (by omega), hm.keep (hp_this.2.2.2.2.2.2.2.2.2.2.2.2) (by omega)⟩
      have hF := hF.tr (hm.fr (by omega) (by omega))
      refine lv_aload_n hx hb dX13_moveAt_39 rfl (lv_at hl 0 rfl) ?_
      refine mm_get hC hM (k := 0) hp_this.1 rfl inAX13 (by decide) q7_5 rfl dX13_moveAt_40 ?_
      refine lv_if_ne (tgt := 63) hx hb dX13_moveAt_43 (by decide) (fun _ => ?_) (fun c => absurd c (by decide))
      refine lv_bipush (v := 97) hx hb dX13_moveAt_63 (by decide) ?_
      cases hf
      exact hret hM dX13_moveAt_65 (by decide) ⟨rfl, hp_this, hF⟩
    · rw [if_neg hcd] at hf
      refine lv_iconst (v := 0) hx hb dX13_moveAt_31 (by decide) ?_
      refine lv_goto (tgt := 36) hx hb dX13_moveAt_32 (by decide) ?_
      refine mm_put hC hM (k := 0) tyX13 hp_this.1 rfl inAX13 tyX13_ok nmX13 (by decide) q7_5 rfl rfl rfl rfl (Nat.le_of_ble_eq_true rfl) dX13_moveAt_36 (fun w36 H locs hM hm => ?_)
      have hp_this : At13 G w36 b 0 changes errorAt failedAt isSaved v before saved past far scratch best thenX thenY thenMet text line isLeft words wordAt textN hereP endP lineN isWrong isDoing := ⟨hm.1, hm.keep (hp_this.2.1) (by omega), hm.keep (hp_this.2.2.1) (by omega), hm.keep (hp_this.2.2.2.1) (by omega), hm.keep (hp_this.2.2.2.2.1) (by omega), hm.keep (hp_this.2.2.2.2.2.1) (by omega), hm.keep (hp_this.2.2.2.2.2.2.1) (by omega), hm.keep (hp_this.2.2.2.2.2.2.2.1) (by omega), hm.keep (hp_this.2.2.2.2.2.2.2.2.1) (by omega), hm.keep (hp_this.2.2.2.2.2.2.2.2.2.1) (by omega), hm.keep (hp_this.2.2.2.2.2.2.2.2.2.2.1) (by omega), hm.keep (hp_this.2.2.2.2.2.2.2.2.2.2.2.1) (by omega), hm.keep (hp_this.2.2.2.2.2.2.2.2.2.2.2.2) (by omega)⟩
      have hF := hF.tr (hm.fr (by omega) (by omega))
      refine lv_aload_n hx hb dX13_moveAt_39 rfl (lv_at hl 0 rfl) ?_
      refine mm_get hC hM (k := 0) hp_this.1 rfl inAX13 (by decide) q7_5 rfl dX13_moveAt_40 ?_
      refine lv_if_ne (tgt := 63) hx hb dX13_moveAt_43 (by decide) (fun c => absurd (by decide) c) (fun _ => ?_)
      refine lv_aload_n hx hb dX13_moveAt_46 rfl (lv_at hl 0 rfl) ?_
      refine mm_get hC hM (k := 5) hp_this.1 rfl inAX13 (by decide) q7_10 rfl dX13_moveAt_47 ?_
      refine lv_iload_n hx hb dX13_moveAt_50 rfl (lv_at hl 1 rfl) ?_
      refine lv_iload_n hx hb dX13_moveAt_51 rfl (lv_at hl 2 rfl) ?_
      obtain ⟨q52, hq52, hf⟩ := mm_bd hf
      refine mm_Si (rest := [.ref (b + 1)]) hC hM (c_X13_at l hq52) q8_31 q1_12 ykX13_at q8_29 q8_30 ⟨rfl, rfl⟩ ⟨Nat.le_of_ble_eq_true rfl, Nat.le_of_ble_eq_true rfl⟩ rfl hl.1 rfl (Nat.le_of_ble_eq_true rfl) dX13_moveAt_52 ⟨Nat.le_of_ble_eq_true rfl, Nat.le_of_ble_eq_true rfl⟩ (fun r w52 H locs hM hw => ?_)
      obtain ⟨hr, hw⟩ := hw
      rw [hr]
      rw [hw] at hM
      obtain ⟨hg55, hf⟩ := mm_gd hf
      refine mm_iald hC hM (hp_this.2.1) hg55 dX13_moveAt_55 ?_
      obtain ⟨q56, hq56, hf⟩ := mm_bd hf
      refine mm_Si (rest := []) hC hM (c_X13_letter l hq56) q8_89 q1_12 ykX13_letter q8_87 q8_88 ⟨rfl, rfl⟩ ⟨Nat.le_of_ble_eq_true rfl, Nat.le_of_ble_eq_true rfl⟩ rfl hl.1 rfl (Nat.le_of_ble_eq_true rfl) dX13_moveAt_56 ⟨Nat.le_of_ble_eq_true rfl, Nat.le_of_ble_eq_true rfl⟩ (fun r w56 H locs hM hw => ?_)
      obtain ⟨hr, hw⟩ := hw
      rw [hr]
      rw [hw] at hM
      refine lv_i2c hx hb dX13_moveAt_59 rfl ?_
      refine lv_goto (tgt := 65) hx hb dX13_moveAt_60 (by decide) ?_
      cases hf
      exact hret hM dX13_moveAt_65 (mm_narC2 _) ⟨rfl, hp_this, hF⟩
  · rw [if_pos hcd] at hf
    refine lv_iconst (v := 1) hx hb dX13_moveAt_8 (by decide) ?_
    refine lv_goto (tgt := 36) hx hb dX13_moveAt_9 (by decide) ?_
    refine mm_put hC hM (k := 0) tyX13 hp_this.1 rfl inAX13 tyX13_ok nmX13 (by decide) q7_5 rfl rfl rfl rfl (Nat.le_of_ble_eq_true rfl) dX13_moveAt_36 (fun w36 H locs hM hm => ?_)
    have hp_this : At13 G w36 b 1 changes errorAt failedAt isSaved v before saved past far scratch best thenX thenY thenMet text line isLeft words wordAt textN hereP endP lineN isWrong isDoing := ⟨hm.1, hm.keep (hp_this.2.1) (by omega), hm.keep (hp_this.2.2.1) (by omega), hm.keep (hp_this.2.2.2.1) (by omega), hm.keep (hp_this.2.2.2.2.1) (by omega), hm.keep (hp_this.2.2.2.2.2.1) (by omega), hm.keep (hp_this.2.2.2.2.2.2.1) (by omega), hm.keep (hp_this.2.2.2.2.2.2.2.1) (by omega), hm.keep (hp_this.2.2.2.2.2.2.2.2.1) (by omega), hm.keep (hp_this.2.2.2.2.2.2.2.2.2.1) (by omega), hm.keep (hp_this.2.2.2.2.2.2.2.2.2.2.1) (by omega), hm.keep (hp_this.2.2.2.2.2.2.2.2.2.2.2.1) (by omega), hm.keep (hp_this.2.2.2.2.2.2.2.2.2.2.2.2) (by omega)⟩
    have hF := hF.tr (hm.fr (by omega) (by omega))
    refine lv_aload_n hx hb dX13_moveAt_39 rfl (lv_at hl 0 rfl) ?_
    refine mm_get hC hM (k := 0) hp_this.1 rfl inAX13 (by decide) q7_5 rfl dX13_moveAt_40 ?_
    refine lv_if_ne (tgt := 63) hx hb dX13_moveAt_43 (by decide) (fun _ => ?_) (fun c => absurd c (by decide))
    refine lv_bipush (v := 97) hx hb dX13_moveAt_63 (by decide) ?_
    cases hf
    exact hret hM dX13_moveAt_65 (by decide) ⟨rfl, hp_this, hF⟩
def f_X13_areMirrored_L55 (thrown : Int32) (v : Nat → Int32) (x1 : Int32) (x2 : Int32) : Nat → (Int32) → Option (Int32 × Int32)
  | 0, _ => none
  | n + 1, x3 => mm_g (mm_ck (104 + x1) 238) (if (v (104 + x1).toNatClampNeg) ≤ x3 then some (1, thrown) else (f_X13_at x1 x3).bind fun q74 => mm_g (mm_ck q74 238) ((f_X13_at x2 x3).bind fun q84 => mm_g (mm_ck q84 238) ((f_X13_mirrored (v q84.toNatClampNeg)).bind fun q88 => if (v q74.toNatClampNeg) = q88 then f_X13_areMirrored_L55 thrown v x1 x2 n (x3 + 1) else some (0, thrown))))
def f_X13_areMirrored (K : Nat) (v : Nat → Int32) (x1 : Int32) (x2 : Int32) : Option (Int32 × Int32) := (f_X13_isPlan x1).bind fun q2 => if q2 = 0 then some (0, 1) else (f_X13_isPlan x2).bind fun q9 => if q9 = 0 then some (0, 1) else mm_g (mm_ck (104 + x1) 238) (mm_g (mm_ck (104 + x2) 238) (if (v (104 + x1).toNatClampNeg) = (v (104 + x2).toNatClampNeg) then f_X13_areMirrored_L55 0 v x1 x2 K 0 else some (0, 0)))
set_option maxHeartbeats 4000000 in
set_option maxRecDepth 100000 in
theorem c_X13_areMirrored (l : Launch) {G : mm_G} {K : Nat} {w : va_W} {sz : Nat} {b : Nat} {thrown : Int32} {changes : Int32} {errorAt : Int32} {failedAt : Int32} {isSaved : Int32} {v : Nat → Int32} {before : Nat → Int32} {saved : Nat → Int32} {past : Nat → Int32} {far : Nat → Int32} {scratch : Nat → Int32} {best : Nat → Int32} {thenX : Int32} {thenY : Int32} {thenMet : Int32} {text : Nat → Int32} {line : Nat → Int32} {isLeft : Nat → Int32} {words : Nat → Int32} {wordAt : Nat → Int32} {textN : Int32} {hereP : Int32} {endP : Int32} {lineN : Int32} {isWrong : Int32} {isDoing : Int32} {x1 : Int32} {x2 : Int32} {X : Int32 × Int32} (hf : f_X13_areMirrored K v x1 x2 = some X) (hp_this : At13 G w b thrown changes errorAt failedAt isSaved v before saved past far scratch best thenX thenY thenMet text line isLeft words wordAt textN hereP endP lineN isWrong isDoing) : Met l yX13_areMirrored (Cond.code yX13_areMirrored cX13_areMirrored 4 (some .boolean) :: gAll) ({ frames := 2, cells := 0, slots := 0, locals := 42 }) (va_Pc [.ref b, .int x1, .int x2] (mm_Pre G w sz)) (mm_Qi G w sz (fun r w' => r = X.1 ∧ At13 G w' b X.2 changes errorAt failedAt isSaved v before saved past far scratch best thenX thenY thenMet text line isLeft words wordAt textN hereP endP lineN isWrong isDoing ∧ mm_fr w w' b (b + 13))) 0 0 (va_A w sz) := by
  refine mm_headI [.ref b, .int x1, .int x2] (by decide +kernel) rfl (Nat.le_of_ble_eq_true rfl) ?_
  intro p e s m args below meth c A Q hsz hC hM hret ls hl
  have hx := hC.1.1
  have hb := hC.1.2.1
  have hl : lv_has ls 4 [(0, .ref b), (1, .int x1), (2, .int x2)] := hl
  have hF : mm_fr w w b (b + 13) := mm_fr.rf
  rw [f_X13_areMirrored] at hf
  refine lv_aload_n hx hb dX13_areMirrored_0 rfl (lv_at hl 0 rfl) ?_
  refine lv_iload_n hx hb dX13_areMirrored_1 rfl (lv_at hl 1 rfl) ?_
  obtain ⟨q2, hq2, hf⟩ := mm_bd hf
  refine mm_Si (rest := [.ref b]) hC hM (c_X13_isPlan l hq2) q8_28 q1_12 ykX13_isPlan q8_26 q8_27 ⟨rfl, rfl⟩ ⟨Nat.le_of_ble_eq_true rfl, Nat.le_of_ble_eq_true rfl⟩ rfl hl.1 rfl (Nat.le_of_ble_eq_true rfl) dX13_areMirrored_2 ⟨Nat.le_of_ble_eq_true rfl, Nat.le_of_ble_eq_true rfl⟩ (fun r w2 H locs hM hw => ?_)
  obtain ⟨hr, hw⟩ := hw
  rw [hr]
  rw [hw] at hM
  refine lv_if_eq (tgt := 19) hx hb dX13_areMirrored_5 (by decide) (fun hcd => ?_) (fun hcd => ?_)
  · rw [if_pos hcd] at hf
    refine lv_iconst (v := 1) hx hb dX13_areMirrored_19 (by decide) ?_
    refine mm_put hC hM (k := 0) tyX13 hp_this.1 rfl inAX13 tyX13_ok nmX13 (by decide) q7_5 rfl rfl rfl rfl (Nat.le_of_ble_eq_true rfl) dX13_areMirrored_20 (fun w20 H locs hM hm => ?_)
    have hp_this : At13 G w20 b 1 changes errorAt failedAt isSaved v before saved past far scratch best thenX thenY thenMet text line isLeft words wordAt textN hereP endP lineN isWrong isDoing := ⟨hm.1, hm.keep (hp_this.2.1) (by omega), hm.keep (hp_this.2.2.1) (by omega), hm.keep (hp_this.2.2.2.1) (by omega), hm.keep (hp_this.2.2.2.2.1) (by omega), hm.keep (hp_this.2.2.2.2.2.1) (by omega), hm.keep (hp_this.2.2.2.2.2.2.1) (by omega), hm.keep (hp_this.2.2.2.2.2.2.2.1) (by omega), hm.keep (hp_this.2.2.2.2.2.2.2.2.1) (by omega), hm.keep (hp_this.2.2.2.2.2.2.2.2.2.1) (by omega), hm.keep (hp_this.2.2.2.2.2.2.2.2.2.2.1) (by omega), hm.keep (hp_this.2.2.2.2.2.2.2.2.2.2.2.1) (by omega), hm.keep (hp_this.2.2.2.2.2.2.2.2.2.2.2.2) (by omega)⟩
    have hF := hF.tr (hm.fr (by omega) (by omega))
    refine lv_aload_n hx hb dX13_areMirrored_23 rfl (lv_at hl 0 rfl) ?_
    refine mm_get hC hM (k := 0) hp_this.1 rfl inAX13 (by decide) q7_5 rfl dX13_areMirrored_24 ?_
    refine lv_if_ne (tgt := 51) hx hb dX13_areMirrored_27 (by decide) (fun _ => ?_) (fun c => absurd c (by decide))
    refine lv_iconst (v := 0) hx hb dX13_areMirrored_51 (by decide) ?_
    cases hf
    exact hret hM dX13_areMirrored_52 rfl ⟨rfl, hp_this, hF⟩
  · rw [if_neg hcd] at hf
    refine lv_iload_n hx hb dX13_areMirrored_8 rfl (lv_at hl 2 rfl) ?_
    obtain ⟨q9, hq9, hf⟩ := mm_bd hf
    refine mm_Si (rest := [.ref b]) hC hM (c_X13_isPlan l hq9) q8_28 q1_12 ykX13_isPlan q8_26 q8_27 ⟨rfl, rfl⟩ ⟨Nat.le_of_ble_eq_true rfl, Nat.le_of_ble_eq_true rfl⟩ rfl hl.1 rfl (Nat.le_of_ble_eq_true rfl) dX13_areMirrored_9 ⟨Nat.le_of_ble_eq_true rfl, Nat.le_of_ble_eq_true rfl⟩ (fun r w9 H locs hM hw => ?_)
    obtain ⟨hr, hw⟩ := hw
    rw [hr]
    rw [hw] at hM
    refine lv_if_eq (tgt := 19) hx hb dX13_areMirrored_12 (by decide) (fun hcd => ?_) (fun hcd => ?_)
    · rw [if_pos hcd] at hf
      refine lv_iconst (v := 1) hx hb dX13_areMirrored_19 (by decide) ?_
      refine mm_put hC hM (k := 0) tyX13 hp_this.1 rfl inAX13 tyX13_ok nmX13 (by decide) q7_5 rfl rfl rfl rfl (Nat.le_of_ble_eq_true rfl) dX13_areMirrored_20 (fun w20 H locs hM hm => ?_)
      have hp_this : At13 G w20 b 1 changes errorAt failedAt isSaved v before saved past far scratch best thenX thenY thenMet text line isLeft words wordAt textN hereP endP lineN isWrong isDoing := ⟨hm.1, hm.keep (hp_this.2.1) (by omega), hm.keep (hp_this.2.2.1) (by omega), hm.keep (hp_this.2.2.2.1) (by omega), hm.keep (hp_this.2.2.2.2.1) (by omega), hm.keep (hp_this.2.2.2.2.2.1) (by omega), hm.keep (hp_this.2.2.2.2.2.2.1) (by omega), hm.keep (hp_this.2.2.2.2.2.2.2.1) (by omega), hm.keep (hp_this.2.2.2.2.2.2.2.2.1) (by omega), hm.keep (hp_this.2.2.2.2.2.2.2.2.2.1) (by omega), hm.keep (hp_this.2.2.2.2.2.2.2.2.2.2.1) (by omega), hm.keep (hp_this.2.2.2.2.2.2.2.2.2.2.2.1) (by omega), hm.keep (hp_this.2.2.2.2.2.2.2.2.2.2.2.2) (by omega)⟩
      have hF := hF.tr (hm.fr (by omega) (by omega))
      refine lv_aload_n hx hb dX13_areMirrored_23 rfl (lv_at hl 0 rfl) ?_
      refine mm_get hC hM (k := 0) hp_this.1 rfl inAX13 (by decide) q7_5 rfl dX13_areMirrored_24 ?_
      refine lv_if_ne (tgt := 51) hx hb dX13_areMirrored_27 (by decide) (fun _ => ?_) (fun c => absurd c (by decide))
      refine lv_iconst (v := 0) hx hb dX13_areMirrored_51 (by decide) ?_
      cases hf
      exact hret hM dX13_areMirrored_52 rfl ⟨rfl, hp_this, hF⟩
    · rw [if_neg hcd] at hf
      refine lv_iconst (v := 0) hx hb dX13_areMirrored_15 (by decide) ?_
      refine lv_goto (tgt := 20) hx hb dX13_areMirrored_16 (by decide) ?_
      refine mm_put hC hM (k := 0) tyX13 hp_this.1 rfl inAX13 tyX13_ok nmX13 (by decide) q7_5 rfl rfl rfl rfl (Nat.le_of_ble_eq_true rfl) dX13_areMirrored_20 (fun w20 H locs hM hm => ?_)
      have hp_this : At13 G w20 b 0 changes errorAt failedAt isSaved v before saved past far scratch best thenX thenY thenMet text line isLeft words wordAt textN hereP endP lineN isWrong isDoing := ⟨hm.1, hm.keep (hp_this.2.1) (by omega), hm.keep (hp_this.2.2.1) (by omega), hm.keep (hp_this.2.2.2.1) (by omega), hm.keep (hp_this.2.2.2.2.1) (by omega), hm.keep (hp_this.2.2.2.2.2.1) (by omega), hm.keep (hp_this.2.2.2.2.2.2.1) (by omega), hm.keep (hp_this.2.2.2.2.2.2.2.1) (by omega), hm.keep (hp_this.2.2.2.2.2.2.2.2.1) (by omega), hm.keep (hp_this.2.2.2.2.2.2.2.2.2.1) (by omega), hm.keep (hp_this.2.2.2.2.2.2.2.2.2.2.1) (by omega), hm.keep (hp_this.2.2.2.2.2.2.2.2.2.2.2.1) (by omega), hm.keep (hp_this.2.2.2.2.2.2.2.2.2.2.2.2) (by omega)⟩
      have hF := hF.tr (hm.fr (by omega) (by omega))
      refine lv_aload_n hx hb dX13_areMirrored_23 rfl (lv_at hl 0 rfl) ?_
      refine mm_get hC hM (k := 0) hp_this.1 rfl inAX13 (by decide) q7_5 rfl dX13_areMirrored_24 ?_
      refine lv_if_ne (tgt := 51) hx hb dX13_areMirrored_27 (by decide) (fun c => absurd (by decide) c) (fun _ => ?_)
      refine lv_aload_n hx hb dX13_areMirrored_30 rfl (lv_at hl 0 rfl) ?_
      refine mm_get hC hM (k := 5) hp_this.1 rfl inAX13 (by decide) q7_10 rfl dX13_areMirrored_31 ?_
      refine lv_bipush (v := 104) hx hb dX13_areMirrored_34 (by decide) ?_
      refine lv_iload_n hx hb dX13_areMirrored_36 rfl (lv_at hl 1 rfl) ?_
      refine lv_iadd hx hb dX13_areMirrored_37 ?_
      obtain ⟨hg38, hf⟩ := mm_gd hf
      refine mm_iald hC hM (hp_this.2.1) hg38 dX13_areMirrored_38 ?_
      refine lv_aload_n hx hb dX13_areMirrored_39 rfl (lv_at hl 0 rfl) ?_
      refine mm_get hC hM (k := 5) hp_this.1 rfl inAX13 (by decide) q7_10 rfl dX13_areMirrored_40 ?_
      refine lv_bipush (v := 104) hx hb dX13_areMirrored_43 (by decide) ?_
      refine lv_iload_n hx hb dX13_areMirrored_45 rfl (lv_at hl 2 rfl) ?_
      refine lv_iadd hx hb dX13_areMirrored_46 ?_
      obtain ⟨hg47, hf⟩ := mm_gd hf
      refine mm_iald hC hM (hp_this.2.1) hg47 dX13_areMirrored_47 ?_
      refine lv_icmp_eq (tgt := 53) hx hb dX13_areMirrored_48 (by decide) (fun hcd => ?_) (fun hcd => ?_)
      · rw [if_pos hcd] at hf
        refine lv_iconst (v := 0) hx hb dX13_areMirrored_53 (by decide) ?_
        refine lv_istore_n (lv' := [(3, .int 0), (0, .ref b), (1, .int x1), (2, .int x2)]) hx hb dX13_areMirrored_54 rfl hl (by decide) rfl (fun ls hl => ?_)
        have L55 : ∀ (n : Nat) (L55_x3 : Int32), f_X13_areMirrored_L55 0 v x1 x2 n L55_x3 = some X → ∀ (H : Heap) (locs : List Loc), mm_S G A s.heap w20 H locs → ∀ (ls : Array Slot), lv_has ls 4 [(0, .ref b), (1, .int x1), (2, .int x2), (3, .int L55_x3)] → W p l e ({ frames := 2, cells := 0, slots := 0, locals := 42 } : Room) s m args below meth c H locs 0 0 Q (F0 m 55 ls []) := by
          intro n
          induction n with
          | zero => intro L55_x3 hf; cases hf
          | succ n ih =>
            intro L55_x3 hf H locs hM ls hl
            rw [f_X13_areMirrored_L55] at hf
            refine lv_iload_n hx hb dX13_areMirrored_55 rfl (lv_at hl 3 rfl) ?_
            refine lv_aload_n hx hb dX13_areMirrored_56 rfl (lv_at hl 0 rfl) ?_
            refine mm_get hC hM (k := 5) hp_this.1 rfl inAX13 (by decide) q7_10 rfl dX13_areMirrored_57 ?_
            refine lv_bipush (v := 104) hx hb dX13_areMirrored_60 (by decide) ?_
            refine lv_iload_n hx hb dX13_areMirrored_62 rfl (lv_at hl 1 rfl) ?_
            refine lv_iadd hx hb dX13_areMirrored_63 ?_
            obtain ⟨hg64, hf⟩ := mm_gd hf
            refine mm_iald hC hM (hp_this.2.1) hg64 dX13_areMirrored_64 ?_
            refine lv_icmp_ge (tgt := 102) hx hb dX13_areMirrored_65 (by decide) (fun hcd => ?_) (fun hcd => ?_)
            · rw [if_pos hcd] at hf
              refine lv_iconst (v := 1) hx hb dX13_areMirrored_102 (by decide) ?_
              cases hf
              exact hret hM dX13_areMirrored_103 rfl ⟨rfl, hp_this, hF⟩
            · rw [if_neg hcd] at hf
              refine lv_aload_n hx hb dX13_areMirrored_68 rfl (lv_at hl 0 rfl) ?_
              refine mm_get hC hM (k := 5) hp_this.1 rfl inAX13 (by decide) q7_10 rfl dX13_areMirrored_69 ?_
              refine lv_iload_n hx hb dX13_areMirrored_72 rfl (lv_at hl 1 rfl) ?_
              refine lv_iload_n hx hb dX13_areMirrored_73 rfl (lv_at hl 3 rfl) ?_
              obtain ⟨q74, hq74, hf⟩ := mm_bd hf
              refine mm_Si (rest := [.ref (b + 1)]) hC hM (c_X13_at l hq74) q8_31 q1_12 ykX13_at q8_29 q8_30 ⟨rfl, rfl⟩ ⟨Nat.le_of_ble_eq_true rfl, Nat.le_of_ble_eq_true rfl⟩ rfl hl.1 rfl (Nat.le_of_ble_eq_true rfl) dX13_areMirrored_74 ⟨Nat.le_of_ble_eq_true rfl, Nat.le_of_ble_eq_true rfl⟩ (fun r w74 H locs hM hw => ?_)
              obtain ⟨hr, hw⟩ := hw
              rw [hr]
              rw [hw] at hM
              obtain ⟨hg77, hf⟩ := mm_gd hf
              refine mm_iald hC hM (hp_this.2.1) hg77 dX13_areMirrored_77 ?_
              refine lv_aload_n hx hb dX13_areMirrored_78 rfl (lv_at hl 0 rfl) ?_
              refine mm_get hC hM (k := 5) hp_this.1 rfl inAX13 (by decide) q7_10 rfl dX13_areMirrored_79 ?_
              refine lv_iload_n hx hb dX13_areMirrored_82 rfl (lv_at hl 2 rfl) ?_
              refine lv_iload_n hx hb dX13_areMirrored_83 rfl (lv_at hl 3 rfl) ?_
              obtain ⟨q84, hq84, hf⟩ := mm_bd hf
              refine mm_Si (rest := [.ref (b + 1), .int (v q74.toNatClampNeg)]) hC hM (c_X13_at l hq84) q8_31 q1_12 ykX13_at q8_29 q8_30 ⟨rfl, rfl⟩ ⟨Nat.le_of_ble_eq_true rfl, Nat.le_of_ble_eq_true rfl⟩ rfl hl.1 rfl (Nat.le_of_ble_eq_true rfl) dX13_areMirrored_84 ⟨Nat.le_of_ble_eq_true rfl, Nat.le_of_ble_eq_true rfl⟩ (fun r w84 H locs hM hw => ?_)
              obtain ⟨hr, hw⟩ := hw
              rw [hr]
              rw [hw] at hM
              obtain ⟨hg87, hf⟩ := mm_gd hf
              refine mm_iald hC hM (hp_this.2.1) hg87 dX13_areMirrored_87 ?_
              obtain ⟨q88, hq88, hf⟩ := mm_bd hf
              refine mm_Si (rest := [.int (v q74.toNatClampNeg)]) hC hM (c_X13_mirrored l hq88) q8_50 q1_12 ykX13_mirrored q8_48 q8_49 ⟨rfl, rfl⟩ ⟨Nat.le_of_ble_eq_true rfl, Nat.le_of_ble_eq_true rfl⟩ rfl hl.1 rfl (Nat.le_of_ble_eq_true rfl) dX13_areMirrored_88 ⟨Nat.le_of_ble_eq_true rfl, Nat.le_of_ble_eq_true rfl⟩ (fun r w88 H locs hM hw => ?_)
              obtain ⟨hr, hw⟩ := hw
              rw [hr]
              rw [hw] at hM
              refine lv_icmp_eq (tgt := 96) hx hb dX13_areMirrored_91 (by decide) (fun hcd => ?_) (fun hcd => ?_)
              · rw [if_pos hcd] at hf
                refine lv_iinc (v := (L55_x3 + 1)) (lv' := [(3, .int (L55_x3 + 1)), (0, .ref b), (1, .int x1), (2, .int x2)]) hx hb dX13_areMirrored_96 hl (k := 3) rfl rfl (by decide) rfl (fun ls hl => ?_)
                refine lv_goto (tgt := 55) hx hb dX13_areMirrored_99 (by decide) ?_
                exact ih _ hf _ _ hM _ (lv_sub hl [1, 2, 3, 0] rfl)
              · rw [if_neg hcd] at hf
                refine lv_iconst (v := 0) hx hb dX13_areMirrored_94 (by decide) ?_
                cases hf
                exact hret hM dX13_areMirrored_95 rfl ⟨rfl, hp_this, hF⟩
        exact L55 K _ hf _ _ hM _ (lv_sub hl [1, 2, 3, 0] rfl)
      · rw [if_neg hcd] at hf
        refine lv_iconst (v := 0) hx hb dX13_areMirrored_51 (by decide) ?_
        cases hf
        exact hret hM dX13_areMirrored_52 rfl ⟨rfl, hp_this, hF⟩
def f_X13_steps (thenX : Int32) (thenY : Int32) (x1 : Int32) : Option (Int32 × Int32 × Int32) := if x1 = 3 then if x1 = 0 then (f_X13_isCell (thenX + 1) (thenY + 1)).bind fun q63 => mm_g (decide (q63 = 0 ∨ q63 = 1)) (some (q63, (thenX + 1), (thenY + 1))) else if x1 = 1 then (f_X13_isCell (thenX + 1) (thenY + (-1))).bind fun q63 => mm_g (decide (q63 = 0 ∨ q63 = 1)) (some (q63, (thenX + 1), (thenY + (-1)))) else (f_X13_isCell (thenX + 1) (thenY + 0)).bind fun q63 => mm_g (decide (q63 = 0 ∨ q63 = 1)) (some (q63, (thenX + 1), (thenY + 0))) else if x1 = 2 then if x1 = 0 then (f_X13_isCell (thenX + (-1)) (thenY + 1)).bind fun q63 => mm_g (decide (q63 = 0 ∨ q63 = 1)) (some (q63, (thenX + (-1)), (thenY + 1))) else if x1 = 1 then (f_X13_isCell (thenX + (-1)) (thenY + (-1))).bind fun q63 => mm_g (decide (q63 = 0 ∨ q63 = 1)) (some (q63, (thenX + (-1)), (thenY + (-1)))) else (f_X13_isCell (thenX + (-1)) (thenY + 0)).bind fun q63 => mm_g (decide (q63 = 0 ∨ q63 = 1)) (some (q63, (thenX + (-1)), (thenY + 0))) else if x1 = 0 then (f_X13_isCell (thenX + 0) (thenY + 1)).bind fun q63 => mm_g (decide (q63 = 0 ∨ q63 = 1)) (some (q63, (thenX + 0), (thenY + 1))) else if x1 = 1 then (f_X13_isCell (thenX + 0) (thenY + (-1))).bind fun q63 => mm_g (decide (q63 = 0 ∨ q63 = 1)) (some (q63, (thenX + 0), (thenY + (-1)))) else (f_X13_isCell (thenX + 0) (thenY + 0)).bind fun q63 => mm_g (decide (q63 = 0 ∨ q63 = 1)) (some (q63, (thenX + 0), (thenY + 0)))
set_option maxHeartbeats 4000000 in
set_option maxRecDepth 100000 in
theorem c_X13_steps (l : Launch) {G : mm_G} {w : va_W} {sz : Nat} {b : Nat} {thrown : Int32} {changes : Int32} {errorAt : Int32} {failedAt : Int32} {isSaved : Int32} {v : Nat → Int32} {before : Nat → Int32} {saved : Nat → Int32} {past : Nat → Int32} {far : Nat → Int32} {scratch : Nat → Int32} {best : Nat → Int32} {thenX : Int32} {thenY : Int32} {thenMet : Int32} {text : Nat → Int32} {line : Nat → Int32} {isLeft : Nat → Int32} {words : Nat → Int32} {wordAt : Nat → Int32} {textN : Int32} {hereP : Int32} {endP : Int32} {lineN : Int32} {isWrong : Int32} {isDoing : Int32} {x1 : Int32} {X : Int32 × Int32 × Int32} (hf : f_X13_steps thenX thenY x1 = some X) (hp_this : At13 G w b thrown changes errorAt failedAt isSaved v before saved past far scratch best thenX thenY thenMet text line isLeft words wordAt textN hereP endP lineN isWrong isDoing) : Met l yX13_steps (Cond.code yX13_steps cX13_steps 2 (some .boolean) :: gAll) ({ frames := 2, cells := 0, slots := 0, locals := 43 }) (va_Pc [.ref b, .int x1] (mm_Pre G w sz)) (mm_Qi G w sz (fun r w' => r = X.1 ∧ At13 G w' b thrown changes errorAt failedAt isSaved v before saved past far scratch best X.2.1 X.2.2 thenMet text line isLeft words wordAt textN hereP endP lineN isWrong isDoing ∧ mm_fr w w' b (b + 13))) 0 0 (va_A w sz) := by
  refine mm_headI [.ref b, .int x1] (by decide +kernel) rfl (Nat.le_of_ble_eq_true rfl) ?_
  intro p e s m args below meth c A Q hsz hC hM hret ls hl
  have hx := hC.1.1
  have hb := hC.1.2.1
  have hl : lv_has ls 2 [(0, .ref b), (1, .int x1)] := hl
  have hF : mm_fr w w b (b + 13) := mm_fr.rf
  rw [f_X13_steps] at hf
  refine lv_aload_n hx hb dX13_steps_0 rfl (lv_at hl 0 rfl) ?_
  refine lv_dup hx hb dX13_steps_1 rfl ?_
  refine mm_get hC hM (k := 12) hp_this.1 rfl inAX13 (by decide) q7_17 rfl dX13_steps_2 ?_
  refine lv_iload_n hx hb dX13_steps_5 rfl (lv_at hl 1 rfl) ?_
  refine lv_iconst (v := 3) hx hb dX13_steps_6 (by decide) ?_
  refine lv_icmp_ne (tgt := 14) hx hb dX13_steps_7 (by decide) (fun hcd => ?_) (fun hcd => ?_)
  · rw [if_neg hcd] at hf
    refine lv_iload_n hx hb dX13_steps_14 rfl (lv_at hl 1 rfl) ?_
    refine lv_iconst (v := 2) hx hb dX13_steps_15 (by decide) ?_
    refine lv_icmp_ne (tgt := 23) hx hb dX13_steps_16 (by decide) (fun hcd => ?_) (fun hcd => ?_)
    · rw [if_neg hcd] at hf
      refine lv_iconst (v := 0) hx hb dX13_steps_23 (by decide) ?_
      refine lv_iadd hx hb dX13_steps_24 ?_
      refine mm_put hC hM (k := 12) tyX13 hp_this.1 rfl inAX13 tyX13_ok nmX13 (by decide) q7_17 rfl rfl rfl rfl (Nat.le_of_ble_eq_true rfl) dX13_steps_25 (fun w25 H locs hM hm => ?_)
      have hp_this : At13 G w25 b thrown changes errorAt failedAt isSaved v before saved past far scratch best (thenX + 0) thenY thenMet text line isLeft words wordAt textN hereP endP lineN isWrong isDoing := ⟨hm.1, hm.keep (hp_this.2.1) (by omega), hm.keep (hp_this.2.2.1) (by omega), hm.keep (hp_this.2.2.2.1) (by omega), hm.keep (hp_this.2.2.2.2.1) (by omega), hm.keep (hp_this.2.2.2.2.2.1) (by omega), hm.keep (hp_this.2.2.2.2.2.2.1) (by omega), hm.keep (hp_this.2.2.2.2.2.2.2.1) (by omega), hm.keep (hp_this.2.2.2.2.2.2.2.2.1) (by omega), hm.keep (hp_this.2.2.2.2.2.2.2.2.2.1) (by omega), hm.keep (hp_this.2.2.2.2.2.2.2.2.2.2.1) (by omega), hm.keep (hp_this.2.2.2.2.2.2.2.2.2.2.2.1) (by omega), hm.keep (hp_this.2.2.2.2.2.2.2.2.2.2.2.2) (by omega)⟩
      have hF := hF.tr (hm.fr (by omega) (by omega))
      refine lv_aload_n hx hb dX13_steps_28 rfl (lv_at hl 0 rfl) ?_
      refine lv_dup hx hb dX13_steps_29 rfl ?_
      refine mm_get hC hM (k := 13) hp_this.1 rfl inAX13 (by decide) q7_18 rfl dX13_steps_30 ?_
      refine lv_iload_n hx hb dX13_steps_33 rfl (lv_at hl 1 rfl) ?_
      refine lv_if_ne (tgt := 41) hx hb dX13_steps_34 (by decide) (fun hcd => ?_) (fun hcd => ?_)
      · rw [if_neg hcd] at hf
        refine lv_iload_n hx hb dX13_steps_41 rfl (lv_at hl 1 rfl) ?_
        refine lv_iconst (v := 1) hx hb dX13_steps_42 (by decide) ?_
        refine lv_icmp_ne (tgt := 50) hx hb dX13_steps_43 (by decide) (fun hcd => ?_) (fun hcd => ?_)
        · rw [if_neg hcd] at hf
          refine lv_iconst (v := 0) hx hb dX13_steps_50 (by decide) ?_
          refine lv_iadd hx hb dX13_steps_51 ?_
          refine mm_put hC hM (k := 13) tyX13 hp_this.1 rfl inAX13 tyX13_ok nmX13 (by decide) q7_18 rfl rfl rfl rfl (Nat.le_of_ble_eq_true rfl) dX13_steps_52 (fun w52 H locs hM hm => ?_)
          have hp_this : At13 G w52 b thrown changes errorAt failedAt isSaved v before saved past far scratch best (thenX + 0) (thenY + 0) thenMet text line isLeft words wordAt textN hereP endP lineN isWrong isDoing := ⟨hm.1, hm.keep (hp_this.2.1) (by omega), hm.keep (hp_this.2.2.1) (by omega), hm.keep (hp_this.2.2.2.1) (by omega), hm.keep (hp_this.2.2.2.2.1) (by omega), hm.keep (hp_this.2.2.2.2.2.1) (by omega), hm.keep (hp_this.2.2.2.2.2.2.1) (by omega), hm.keep (hp_this.2.2.2.2.2.2.2.1) (by omega), hm.keep (hp_this.2.2.2.2.2.2.2.2.1) (by omega), hm.keep (hp_this.2.2.2.2.2.2.2.2.2.1) (by omega), hm.keep (hp_this.2.2.2.2.2.2.2.2.2.2.1) (by omega), hm.keep (hp_this.2.2.2.2.2.2.2.2.2.2.2.1) (by omega), hm.keep (hp_this.2.2.2.2.2.2.2.2.2.2.2.2) (by omega)⟩
          have hF := hF.tr (hm.fr (by omega) (by omega))
          refine lv_aload_n hx hb dX13_steps_55 rfl (lv_at hl 0 rfl) ?_
          refine mm_get hC hM (k := 12) hp_this.1 rfl inAX13 (by decide) q7_17 rfl dX13_steps_56 ?_
          refine lv_aload_n hx hb dX13_steps_59 rfl (lv_at hl 0 rfl) ?_
          refine mm_get hC hM (k := 13) hp_this.1 rfl inAX13 (by decide) q7_18 rfl dX13_steps_60 ?_
          obtain ⟨q63, hq63, hf⟩ := mm_bd hf
          refine mm_Si (rest := []) hC hM (c_X13_isCell l hq63) q7_105 q1_12 ykX13_isCell q7_103 q7_104 ⟨rfl, rfl⟩ ⟨Nat.le_of_ble_eq_true rfl, Nat.le_of_ble_eq_true rfl⟩ rfl hl.1 rfl (Nat.le_of_ble_eq_true rfl) dX13_steps_63 ⟨Nat.le_of_ble_eq_true rfl, Nat.le_of_ble_eq_true rfl⟩ (fun r w63 H locs hM hw => ?_)
          obtain ⟨hr, hw⟩ := hw
          rw [hr]
          rw [hw] at hM
          obtain ⟨hgr, hf⟩ := mm_gb hf
          cases hf
          exact hret hM dX13_steps_66 (mm_narZ (of_decide_eq_true hgr)) ⟨rfl, hp_this, hF⟩
        · rw [if_pos hcd] at hf
          refine lv_iconst (v := (-1)) hx hb dX13_steps_46 (by decide) ?_
          refine lv_goto (tgt := 51) hx hb dX13_steps_47 (by decide) ?_
          refine lv_iadd hx hb dX13_steps_51 ?_
          refine mm_put hC hM (k := 13) tyX13 hp_this.1 rfl inAX13 tyX13_ok nmX13 (by decide) q7_18 rfl rfl rfl rfl (Nat.le_of_ble_eq_true rfl) dX13_steps_52 (fun w52 H locs hM hm => ?_)
          have hp_this : At13 G w52 b thrown changes errorAt failedAt isSaved v before saved past far scratch best (thenX + 0) (thenY + (-1)) thenMet text line isLeft words wordAt textN hereP endP lineN isWrong isDoing := ⟨hm.1, hm.keep (hp_this.2.1) (by omega), hm.keep (hp_this.2.2.1) (by omega), hm.keep (hp_this.2.2.2.1) (by omega), hm.keep (hp_this.2.2.2.2.1) (by omega), hm.keep (hp_this.2.2.2.2.2.1) (by omega), hm.keep (hp_this.2.2.2.2.2.2.1) (by omega), hm.keep (hp_this.2.2.2.2.2.2.2.1) (by omega), hm.keep (hp_this.2.2.2.2.2.2.2.2.1) (by omega), hm.keep (hp_this.2.2.2.2.2.2.2.2.2.1) (by omega), hm.keep (hp_this.2.2.2.2.2.2.2.2.2.2.1) (by omega), hm.keep (hp_this.2.2.2.2.2.2.2.2.2.2.2.1) (by omega), hm.keep (hp_this.2.2.2.2.2.2.2.2.2.2.2.2) (by omega)⟩
          have hF := hF.tr (hm.fr (by omega) (by omega))
          refine lv_aload_n hx hb dX13_steps_55 rfl (lv_at hl 0 rfl) ?_
          refine mm_get hC hM (k := 12) hp_this.1 rfl inAX13 (by decide) q7_17 rfl dX13_steps_56 ?_
          refine lv_aload_n hx hb dX13_steps_59 rfl (lv_at hl 0 rfl) ?_
          refine mm_get hC hM (k := 13) hp_this.1 rfl inAX13 (by decide) q7_18 rfl dX13_steps_60 ?_
          obtain ⟨q63, hq63, hf⟩ := mm_bd hf
          refine mm_Si (rest := []) hC hM (c_X13_isCell l hq63) q7_105 q1_12 ykX13_isCell q7_103 q7_104 ⟨rfl, rfl⟩ ⟨Nat.le_of_ble_eq_true rfl, Nat.le_of_ble_eq_true rfl⟩ rfl hl.1 rfl (Nat.le_of_ble_eq_true rfl) dX13_steps_63 ⟨Nat.le_of_ble_eq_true rfl, Nat.le_of_ble_eq_true rfl⟩ (fun r w63 H locs hM hw => ?_)
          obtain ⟨hr, hw⟩ := hw
          rw [hr]
          rw [hw] at hM
          obtain ⟨hgr, hf⟩ := mm_gb hf
          cases hf
          exact hret hM dX13_steps_66 (mm_narZ (of_decide_eq_true hgr)) ⟨rfl, hp_this, hF⟩
      · rw [if_pos hcd] at hf
        refine lv_iconst (v := 1) hx hb dX13_steps_37 (by decide) ?_
        refine lv_goto (tgt := 51) hx hb dX13_steps_38 (by decide) ?_
        refine lv_iadd hx hb dX13_steps_51 ?_
        refine mm_put hC hM (k := 13) tyX13 hp_this.1 rfl inAX13 tyX13_ok nmX13 (by decide) q7_18 rfl rfl rfl rfl (Nat.le_of_ble_eq_true rfl) dX13_steps_52 (fun w52 H locs hM hm => ?_)
        have hp_this : At13 G w52 b thrown changes errorAt failedAt isSaved v before saved past far scratch best (thenX + 0) (thenY + 1) thenMet text line isLeft words wordAt textN hereP endP lineN isWrong isDoing := ⟨hm.1, hm.keep (hp_this.2.1) (by omega), hm.keep (hp_this.2.2.1) (by omega), hm.keep (hp_this.2.2.2.1) (by omega), hm.keep (hp_this.2.2.2.2.1) (by omega), hm.keep (hp_this.2.2.2.2.2.1) (by omega), hm.keep (hp_this.2.2.2.2.2.2.1) (by omega), hm.keep (hp_this.2.2.2.2.2.2.2.1) (by omega), hm.keep (hp_this.2.2.2.2.2.2.2.2.1) (by omega), hm.keep (hp_this.2.2.2.2.2.2.2.2.2.1) (by omega), hm.keep (hp_this.2.2.2.2.2.2.2.2.2.2.1) (by omega), hm.keep (hp_this.2.2.2.2.2.2.2.2.2.2.2.1) (by omega), hm.keep (hp_this.2.2.2.2.2.2.2.2.2.2.2.2) (by omega)⟩
        have hF := hF.tr (hm.fr (by omega) (by omega))
        refine lv_aload_n hx hb dX13_steps_55 rfl (lv_at hl 0 rfl) ?_
        refine mm_get hC hM (k := 12) hp_this.1 rfl inAX13 (by decide) q7_17 rfl dX13_steps_56 ?_
        refine lv_aload_n hx hb dX13_steps_59 rfl (lv_at hl 0 rfl) ?_
        refine mm_get hC hM (k := 13) hp_this.1 rfl inAX13 (by decide) q7_18 rfl dX13_steps_60 ?_
        obtain ⟨q63, hq63, hf⟩ := mm_bd hf
        refine mm_Si (rest := []) hC hM (c_X13_isCell l hq63) q7_105 q1_12 ykX13_isCell q7_103 q7_104 ⟨rfl, rfl⟩ ⟨Nat.le_of_ble_eq_true rfl, Nat.le_of_ble_eq_true rfl⟩ rfl hl.1 rfl (Nat.le_of_ble_eq_true rfl) dX13_steps_63 ⟨Nat.le_of_ble_eq_true rfl, Nat.le_of_ble_eq_true rfl⟩ (fun r w63 H locs hM hw => ?_)
        obtain ⟨hr, hw⟩ := hw
        rw [hr]
        rw [hw] at hM
        obtain ⟨hgr, hf⟩ := mm_gb hf
        cases hf
        exact hret hM dX13_steps_66 (mm_narZ (of_decide_eq_true hgr)) ⟨rfl, hp_this, hF⟩
    · rw [if_pos hcd] at hf
      refine lv_iconst (v := (-1)) hx hb dX13_steps_19 (by decide) ?_
      refine lv_goto (tgt := 24) hx hb dX13_steps_20 (by decide) ?_
      refine lv_iadd hx hb dX13_steps_24 ?_
      refine mm_put hC hM (k := 12) tyX13 hp_this.1 rfl inAX13 tyX13_ok nmX13 (by decide) q7_17 rfl rfl rfl rfl (Nat.le_of_ble_eq_true rfl) dX13_steps_25 (fun w25 H locs hM hm => ?_)
      have hp_this : At13 G w25 b thrown changes errorAt failedAt isSaved v before saved past far scratch best (thenX + (-1)) thenY thenMet text line isLeft words wordAt textN hereP endP lineN isWrong isDoing := ⟨hm.1, hm.keep (hp_this.2.1) (by omega), hm.keep (hp_this.2.2.1) (by omega), hm.keep (hp_this.2.2.2.1) (by omega), hm.keep (hp_this.2.2.2.2.1) (by omega), hm.keep (hp_this.2.2.2.2.2.1) (by omega), hm.keep (hp_this.2.2.2.2.2.2.1) (by omega), hm.keep (hp_this.2.2.2.2.2.2.2.1) (by omega), hm.keep (hp_this.2.2.2.2.2.2.2.2.1) (by omega), hm.keep (hp_this.2.2.2.2.2.2.2.2.2.1) (by omega), hm.keep (hp_this.2.2.2.2.2.2.2.2.2.2.1) (by omega), hm.keep (hp_this.2.2.2.2.2.2.2.2.2.2.2.1) (by omega), hm.keep (hp_this.2.2.2.2.2.2.2.2.2.2.2.2) (by omega)⟩
      have hF := hF.tr (hm.fr (by omega) (by omega))
      refine lv_aload_n hx hb dX13_steps_28 rfl (lv_at hl 0 rfl) ?_
      refine lv_dup hx hb dX13_steps_29 rfl ?_
      refine mm_get hC hM (k := 13) hp_this.1 rfl inAX13 (by decide) q7_18 rfl dX13_steps_30 ?_
      refine lv_iload_n hx hb dX13_steps_33 rfl (lv_at hl 1 rfl) ?_
      refine lv_if_ne (tgt := 41) hx hb dX13_steps_34 (by decide) (fun hcd => ?_) (fun hcd => ?_)
      · rw [if_neg hcd] at hf
        refine lv_iload_n hx hb dX13_steps_41 rfl (lv_at hl 1 rfl) ?_
        refine lv_iconst (v := 1) hx hb dX13_steps_42 (by decide) ?_
        refine lv_icmp_ne (tgt := 50) hx hb dX13_steps_43 (by decide) (fun hcd => ?_) (fun hcd => ?_)
        · rw [if_neg hcd] at hf
          refine lv_iconst (v := 0) hx hb dX13_steps_50 (by decide) ?_
          refine lv_iadd hx hb dX13_steps_51 ?_
          refine mm_put hC hM (k := 13) tyX13 hp_this.1 rfl inAX13 tyX13_ok nmX13 (by decide) q7_18 rfl rfl rfl rfl (Nat.le_of_ble_eq_true rfl) dX13_steps_52 (fun w52 H locs hM hm => ?_)
          have hp_this : At13 G w52 b thrown changes errorAt failedAt isSaved v before saved past far scratch best (thenX + (-1)) (thenY + 0) thenMet text line isLeft words wordAt textN hereP endP lineN isWrong isDoing := ⟨hm.1, hm.keep (hp_this.2.1) (by omega), hm.keep (hp_this.2.2.1) (by omega), hm.keep (hp_this.2.2.2.1) (by omega), hm.keep (hp_this.2.2.2.2.1) (by omega), hm.keep (hp_this.2.2.2.2.2.1) (by omega), hm.keep (hp_this.2.2.2.2.2.2.1) (by omega), hm.keep (hp_this.2.2.2.2.2.2.2.1) (by omega), hm.keep (hp_this.2.2.2.2.2.2.2.2.1) (by omega), hm.keep (hp_this.2.2.2.2.2.2.2.2.2.1) (by omega), hm.keep (hp_this.2.2.2.2.2.2.2.2.2.2.1) (by omega), hm.keep (hp_this.2.2.2.2.2.2.2.2.2.2.2.1) (by omega), hm.keep (hp_this.2.2.2.2.2.2.2.2.2.2.2.2) (by omega)⟩
          have hF := hF.tr (hm.fr (by omega) (by omega))
          refine lv_aload_n hx hb dX13_steps_55 rfl (lv_at hl 0 rfl) ?_
          refine mm_get hC hM (k := 12) hp_this.1 rfl inAX13 (by decide) q7_17 rfl dX13_steps_56 ?_
          refine lv_aload_n hx hb dX13_steps_59 rfl (lv_at hl 0 rfl) ?_
          refine mm_get hC hM (k := 13) hp_this.1 rfl inAX13 (by decide) q7_18 rfl dX13_steps_60 ?_
          obtain ⟨q63, hq63, hf⟩ := mm_bd hf
          refine mm_Si (rest := []) hC hM (c_X13_isCell l hq63) q7_105 q1_12 ykX13_isCell q7_103 q7_104 ⟨rfl, rfl⟩ ⟨Nat.le_of_ble_eq_true rfl, Nat.le_of_ble_eq_true rfl⟩ rfl hl.1 rfl (Nat.le_of_ble_eq_true rfl) dX13_steps_63 ⟨Nat.le_of_ble_eq_true rfl, Nat.le_of_ble_eq_true rfl⟩ (fun r w63 H locs hM hw => ?_)
          obtain ⟨hr, hw⟩ := hw
          rw [hr]
          rw [hw] at hM
          obtain ⟨hgr, hf⟩ := mm_gb hf
          cases hf
          exact hret hM dX13_steps_66 (mm_narZ (of_decide_eq_true hgr)) ⟨rfl, hp_this, hF⟩
        · rw [if_pos hcd] at hf
          refine lv_iconst (v := (-1)) hx hb dX13_steps_46 (by decide) ?_
          refine lv_goto (tgt := 51) hx hb dX13_steps_47 (by decide) ?_
          refine lv_iadd hx hb dX13_steps_51 ?_
          refine mm_put hC hM (k := 13) tyX13 hp_this.1 rfl inAX13 tyX13_ok nmX13 (by decide) q7_18 rfl rfl rfl rfl (Nat.le_of_ble_eq_true rfl) dX13_steps_52 (fun w52 H locs hM hm => ?_)
          have hp_this : At13 G w52 b thrown changes errorAt failedAt isSaved v before saved past far scratch best (thenX + (-1)) (thenY + (-1)) thenMet text line isLeft words wordAt textN hereP endP lineN isWrong isDoing := ⟨hm.1, hm.keep (hp_this.2.1) (by omega), hm.keep (hp_this.2.2.1) (by omega), hm.keep (hp_this.2.2.2.1) (by omega), hm.keep (hp_this.2.2.2.2.1) (by omega), hm.keep (hp_this.2.2.2.2.2.1) (by omega), hm.keep (hp_this.2.2.2.2.2.2.1) (by omega), hm.keep (hp_this.2.2.2.2.2.2.2.1) (by omega), hm.keep (hp_this.2.2.2.2.2.2.2.2.1) (by omega), hm.keep (hp_this.2.2.2.2.2.2.2.2.2.1) (by omega), hm.keep (hp_this.2.2.2.2.2.2.2.2.2.2.1) (by omega), hm.keep (hp_this.2.2.2.2.2.2.2.2.2.2.2.1) (by omega), hm.keep (hp_this.2.2.2.2.2.2.2.2.2.2.2.2) (by omega)⟩
          have hF := hF.tr (hm.fr (by omega) (by omega))
          refine lv_aload_n hx hb dX13_steps_55 rfl (lv_at hl 0 rfl) ?_
          refine mm_get hC hM (k := 12) hp_this.1 rfl inAX13 (by decide) q7_17 rfl dX13_steps_56 ?_
          refine lv_aload_n hx hb dX13_steps_59 rfl (lv_at hl 0 rfl) ?_
          refine mm_get hC hM (k := 13) hp_this.1 rfl inAX13 (by decide) q7_18 rfl dX13_steps_60 ?_
          obtain ⟨q63, hq63, hf⟩ := mm_bd hf
          refine mm_Si (rest := []) hC hM (c_X13_isCell l hq63) q7_105 q1_12 ykX13_isCell q7_103 q7_104 ⟨rfl, rfl⟩ ⟨Nat.le_of_ble_eq_true rfl, Nat.le_of_ble_eq_true rfl⟩ rfl hl.1 rfl (Nat.le_of_ble_eq_true rfl) dX13_steps_63 ⟨Nat.le_of_ble_eq_true rfl, Nat.le_of_ble_eq_true rfl⟩ (fun r w63 H locs hM hw => ?_)
          obtain ⟨hr, hw⟩ := hw
          rw [hr]
          rw [hw] at hM
          obtain ⟨hgr, hf⟩ := mm_gb hf
          cases hf
          exact hret hM dX13_steps_66 (mm_narZ (of_decide_eq_true hgr)) ⟨rfl, hp_this, hF⟩
      · rw [if_pos hcd] at hf
        refine lv_iconst (v := 1) hx hb dX13_steps_37 (by decide) ?_
        refine lv_goto (tgt := 51) hx hb dX13_steps_38 (by decide) ?_
        refine lv_iadd hx hb dX13_steps_51 ?_
        refine mm_put hC hM (k := 13) tyX13 hp_this.1 rfl inAX13 tyX13_ok nmX13 (by decide) q7_18 rfl rfl rfl rfl (Nat.le_of_ble_eq_true rfl) dX13_steps_52 (fun w52 H locs hM hm => ?_)
        have hp_this : At13 G w52 b thrown changes errorAt failedAt isSaved v before saved past far scratch best (thenX + (-1)) (thenY + 1) thenMet text line isLeft words wordAt textN hereP endP lineN isWrong isDoing := ⟨hm.1, hm.keep (hp_this.2.1) (by omega), hm.keep (hp_this.2.2.1) (by omega), hm.keep (hp_this.2.2.2.1) (by omega), hm.keep (hp_this.2.2.2.2.1) (by omega), hm.keep (hp_this.2.2.2.2.2.1) (by omega), hm.keep (hp_this.2.2.2.2.2.2.1) (by omega), hm.keep (hp_this.2.2.2.2.2.2.2.1) (by omega), hm.keep (hp_this.2.2.2.2.2.2.2.2.1) (by omega), hm.keep (hp_this.2.2.2.2.2.2.2.2.2.1) (by omega), hm.keep (hp_this.2.2.2.2.2.2.2.2.2.2.1) (by omega), hm.keep (hp_this.2.2.2.2.2.2.2.2.2.2.2.1) (by omega), hm.keep (hp_this.2.2.2.2.2.2.2.2.2.2.2.2) (by omega)⟩
        have hF := hF.tr (hm.fr (by omega) (by omega))
        refine lv_aload_n hx hb dX13_steps_55 rfl (lv_at hl 0 rfl) ?_
        refine mm_get hC hM (k := 12) hp_this.1 rfl inAX13 (by decide) q7_17 rfl dX13_steps_56 ?_
        refine lv_aload_n hx hb dX13_steps_59 rfl (lv_at hl 0 rfl) ?_
        refine mm_get hC hM (k := 13) hp_this.1 rfl inAX13 (by decide) q7_18 rfl dX13_steps_60 ?_
        obtain ⟨q63, hq63, hf⟩ := mm_bd hf
        refine mm_Si (rest := []) hC hM (c_X13_isCell l hq63) q7_105 q1_12 ykX13_isCell q7_103 q7_104 ⟨rfl, rfl⟩ ⟨Nat.le_of_ble_eq_true rfl, Nat.le_of_ble_eq_true rfl⟩ rfl hl.1 rfl (Nat.le_of_ble_eq_true rfl) dX13_steps_63 ⟨Nat.le_of_ble_eq_true rfl, Nat.le_of_ble_eq_true rfl⟩ (fun r w63 H locs hM hw => ?_)
        obtain ⟨hr, hw⟩ := hw
        rw [hr]
        rw [hw] at hM
        obtain ⟨hgr, hf⟩ := mm_gb hf
        cases hf
        exact hret hM dX13_steps_66 (mm_narZ (of_decide_eq_true hgr)) ⟨rfl, hp_this, hF⟩
  · rw [if_pos hcd] at hf
    refine lv_iconst (v := 1) hx hb dX13_steps_10 (by decide) ?_
    refine lv_goto (tgt := 24) hx hb dX13_steps_11 (by decide) ?_
    refine lv_iadd hx hb dX13_steps_24 ?_
    refine mm_put hC hM (k := 12) tyX13 hp_this.1 rfl inAX13 tyX13_ok nmX13 (by decide) q7_17 rfl rfl rfl rfl (Nat.le_of_ble_eq_true rfl) dX13_steps_25 (fun w25 H locs hM hm => ?_)
    have hp_this : At13 G w25 b thrown changes errorAt failedAt isSaved v before saved past far scratch best (thenX + 1) thenY thenMet text line isLeft words wordAt textN hereP endP lineN isWrong isDoing := ⟨hm.1, hm.keep (hp_this.2.1) (by omega), hm.keep (hp_this.2.2.1) (by omega), hm.keep (hp_this.2.2.2.1) (by omega), hm.keep (hp_this.2.2.2.2.1) (by omega), hm.keep (hp_this.2.2.2.2.2.1) (by omega), hm.keep (hp_this.2.2.2.2.2.2.1) (by omega), hm.keep (hp_this.2.2.2.2.2.2.2.1) (by omega), hm.keep (hp_this.2.2.2.2.2.2.2.2.1) (by omega), hm.keep (hp_this.2.2.2.2.2.2.2.2.2.1) (by omega), hm.keep (hp_this.2.2.2.2.2.2.2.2.2.2.1) (by omega), hm.keep (hp_this.2.2.2.2.2.2.2.2.2.2.2.1) (by omega), hm.keep (hp_this.2.2.2.2.2.2.2.2.2.2.2.2) (by omega)⟩
    have hF := hF.tr (hm.fr (by omega) (by omega))
    refine lv_aload_n hx hb dX13_steps_28 rfl (lv_at hl 0 rfl) ?_
    refine lv_dup hx hb dX13_steps_29 rfl ?_
    refine mm_get hC hM (k := 13) hp_this.1 rfl inAX13 (by decide) q7_18 rfl dX13_steps_30 ?_
    refine lv_iload_n hx hb dX13_steps_33 rfl (lv_at hl 1 rfl) ?_
    refine lv_if_ne (tgt := 41) hx hb dX13_steps_34 (by decide) (fun hcd => ?_) (fun hcd => ?_)
    · rw [if_neg hcd] at hf
      refine lv_iload_n hx hb dX13_steps_41 rfl (lv_at hl 1 rfl) ?_
      refine lv_iconst (v := 1) hx hb dX13_steps_42 (by decide) ?_
      refine lv_icmp_ne (tgt := 50) hx hb dX13_steps_43 (by decide) (fun hcd => ?_) (fun hcd => ?_)
      · rw [if_neg hcd] at hf
        refine lv_iconst (v := 0) hx hb dX13_steps_50 (by decide) ?_
        refine lv_iadd hx hb dX13_steps_51 ?_
        refine mm_put hC hM (k := 13) tyX13 hp_this.1 rfl inAX13 tyX13_ok nmX13 (by decide) q7_18 rfl rfl rfl rfl (Nat.le_of_ble_eq_true rfl) dX13_steps_52 (fun w52 H locs hM hm => ?_)
        have hp_this : At13 G w52 b thrown changes errorAt failedAt isSaved v before saved past far scratch best (thenX + 1) (thenY + 0) thenMet text line isLeft words wordAt textN hereP endP lineN isWrong isDoing := ⟨hm.1, hm.keep (hp_this.2.1) (by omega), hm.keep (hp_this.2.2.1) (by omega), hm.keep (hp_this.2.2.2.1) (by omega), hm.keep (hp_this.2.2.2.2.1) (by omega), hm.keep (hp_this.2.2.2.2.2.1) (by omega), hm.keep (hp_this.2.2.2.2.2.2.1) (by omega), hm.keep (hp_this.2.2.2.2.2.2.2.1) (by omega), hm.keep (hp_this.2.2.2.2.2.2.2.2.1) (by omega), hm.keep (hp_this.2.2.2.2.2.2.2.2.2.1) (by omega), hm.keep (hp_this.2.2.2.2.2.2.2.2.2.2.1) (by omega), hm.keep (hp_this.2.2.2.2.2.2.2.2.2.2.2.1) (by omega), hm.keep (hp_this.2.2.2.2.2.2.2.2.2.2.2.2) (by omega)⟩
        have hF := hF.tr (hm.fr (by omega) (by omega))
        refine lv_aload_n hx hb dX13_steps_55 rfl (lv_at hl 0 rfl) ?_
        refine mm_get hC hM (k := 12) hp_this.1 rfl inAX13 (by decide) q7_17 rfl dX13_steps_56 ?_
        refine lv_aload_n hx hb dX13_steps_59 rfl (lv_at hl 0 rfl) ?_
        refine mm_get hC hM (k := 13) hp_this.1 rfl inAX13 (by decide) q7_18 rfl dX13_steps_60 ?_
        obtain ⟨q63, hq63, hf⟩ := mm_bd hf
        refine mm_Si (rest := []) hC hM (c_X13_isCell l hq63) q7_105 q1_12 ykX13_isCell q7_103 q7_104 ⟨rfl, rfl⟩ ⟨Nat.le_of_ble_eq_true rfl, Nat.le_of_ble_eq_true rfl⟩ rfl hl.1 rfl (Nat.le_of_ble_eq_true rfl) dX13_steps_63 ⟨Nat.le_of_ble_eq_true rfl, Nat.le_of_ble_eq_true rfl⟩ (fun r w63 H locs hM hw => ?_)
        obtain ⟨hr, hw⟩ := hw
        rw [hr]
        rw [hw] at hM
        obtain ⟨hgr, hf⟩ := mm_gb hf
        cases hf
        exact hret hM dX13_steps_66 (mm_narZ (of_decide_eq_true hgr)) ⟨rfl, hp_this, hF⟩
      · rw [if_pos hcd] at hf
        refine lv_iconst (v := (-1)) hx hb dX13_steps_46 (by decide) ?_
        refine lv_goto (tgt := 51) hx hb dX13_steps_47 (by decide) ?_
        refine lv_iadd hx hb dX13_steps_51 ?_
        refine mm_put hC hM (k := 13) tyX13 hp_this.1 rfl inAX13 tyX13_ok nmX13 (by decide) q7_18 rfl rfl rfl rfl (Nat.le_of_ble_eq_true rfl) dX13_steps_52 (fun w52 H locs hM hm => ?_)
        have hp_this : At13 G w52 b thrown changes errorAt failedAt isSaved v before saved past far scratch best (thenX + 1) (thenY + (-1)) thenMet text line isLeft words wordAt textN hereP endP lineN isWrong isDoing := ⟨hm.1, hm.keep (hp_this.2.1) (by omega), hm.keep (hp_this.2.2.1) (by omega), hm.keep (hp_this.2.2.2.1) (by omega), hm.keep (hp_this.2.2.2.2.1) (by omega), hm.keep (hp_this.2.2.2.2.2.1) (by omega), hm.keep (hp_this.2.2.2.2.2.2.1) (by omega), hm.keep (hp_this.2.2.2.2.2.2.2.1) (by omega), hm.keep (hp_this.2.2.2.2.2.2.2.2.1) (by omega), hm.keep (hp_this.2.2.2.2.2.2.2.2.2.1) (by omega), hm.keep (hp_this.2.2.2.2.2.2.2.2.2.2.1) (by omega), hm.keep (hp_this.2.2.2.2.2.2.2.2.2.2.2.1) (by omega), hm.keep (hp_this.2.2.2.2.2.2.2.2.2.2.2.2) (by omega)⟩
        have hF := hF.tr (hm.fr (by omega) (by omega))
        refine lv_aload_n hx hb dX13_steps_55 rfl (lv_at hl 0 rfl) ?_
        refine mm_get hC hM (k := 12) hp_this.1 rfl inAX13 (by decide) q7_17 rfl dX13_steps_56 ?_
        refine lv_aload_n hx hb dX13_steps_59 rfl (lv_at hl 0 rfl) ?_
        refine mm_get hC hM (k := 13) hp_this.1 rfl inAX13 (by decide) q7_18 rfl dX13_steps_60 ?_
        obtain ⟨q63, hq63, hf⟩ := mm_bd hf
        refine mm_Si (rest := []) hC hM (c_X13_isCell l hq63) q7_105 q1_12 ykX13_isCell q7_103 q7_104 ⟨rfl, rfl⟩ ⟨Nat.le_of_ble_eq_true rfl, Nat.le_of_ble_eq_true rfl⟩ rfl hl.1 rfl (Nat.le_of_ble_eq_true rfl) dX13_steps_63 ⟨Nat.le_of_ble_eq_true rfl, Nat.le_of_ble_eq_true rfl⟩ (fun r w63 H locs hM hw => ?_)
        obtain ⟨hr, hw⟩ := hw
        rw [hr]
        rw [hw] at hM
        obtain ⟨hgr, hf⟩ := mm_gb hf
        cases hf
        exact hret hM dX13_steps_66 (mm_narZ (of_decide_eq_true hgr)) ⟨rfl, hp_this, hF⟩
    · rw [if_pos hcd] at hf
      refine lv_iconst (v := 1) hx hb dX13_steps_37 (by decide) ?_
      refine lv_goto (tgt := 51) hx hb dX13_steps_38 (by decide) ?_
      refine lv_iadd hx hb dX13_steps_51 ?_
      refine mm_put hC hM (k := 13) tyX13 hp_this.1 rfl inAX13 tyX13_ok nmX13 (by decide) q7_18 rfl rfl rfl rfl (Nat.le_of_ble_eq_true rfl) dX13_steps_52 (fun w52 H locs hM hm => ?_)
      have hp_this : At13 G w52 b thrown changes errorAt failedAt isSaved v before saved past far scratch best (thenX + 1) (thenY + 1) thenMet text line isLeft words wordAt textN hereP endP lineN isWrong isDoing := ⟨hm.1, hm.keep (hp_this.2.1) (by omega), hm.keep (hp_this.2.2.1) (by omega), hm.keep (hp_this.2.2.2.1) (by omega), hm.keep (hp_this.2.2.2.2.1) (by omega), hm.keep (hp_this.2.2.2.2.2.1) (by omega), hm.keep (hp_this.2.2.2.2.2.2.1) (by omega), hm.keep (hp_this.2.2.2.2.2.2.2.1) (by omega), hm.keep (hp_this.2.2.2.2.2.2.2.2.1) (by omega), hm.keep (hp_this.2.2.2.2.2.2.2.2.2.1) (by omega), hm.keep (hp_this.2.2.2.2.2.2.2.2.2.2.1) (by omega), hm.keep (hp_this.2.2.2.2.2.2.2.2.2.2.2.1) (by omega), hm.keep (hp_this.2.2.2.2.2.2.2.2.2.2.2.2) (by omega)⟩
      have hF := hF.tr (hm.fr (by omega) (by omega))
      refine lv_aload_n hx hb dX13_steps_55 rfl (lv_at hl 0 rfl) ?_
      refine mm_get hC hM (k := 12) hp_this.1 rfl inAX13 (by decide) q7_17 rfl dX13_steps_56 ?_
      refine lv_aload_n hx hb dX13_steps_59 rfl (lv_at hl 0 rfl) ?_
      refine mm_get hC hM (k := 13) hp_this.1 rfl inAX13 (by decide) q7_18 rfl dX13_steps_60 ?_
      obtain ⟨q63, hq63, hf⟩ := mm_bd hf
      refine mm_Si (rest := []) hC hM (c_X13_isCell l hq63) q7_105 q1_12 ykX13_isCell q7_103 q7_104 ⟨rfl, rfl⟩ ⟨Nat.le_of_ble_eq_true rfl, Nat.le_of_ble_eq_true rfl⟩ rfl hl.1 rfl (Nat.le_of_ble_eq_true rfl) dX13_steps_63 ⟨Nat.le_of_ble_eq_true rfl, Nat.le_of_ble_eq_true rfl⟩ (fun r w63 H locs hM hw => ?_)
      obtain ⟨hr, hw⟩ := hw
      rw [hr]
      rw [hw] at hM
      obtain ⟨hgr, hf⟩ := mm_gb hf
      cases hf
      exact hret hM dX13_steps_66 (mm_narZ (of_decide_eq_true hgr)) ⟨rfl, hp_this, hF⟩
def f_X13_bars_L35 (K : Nat) (v : Nat → Int32) (x1 : Int32) (x2 : Int32) : Nat → (Int32) → (Int32) → (Int32) → (Int32) → Option (Int32 × Int32 × Int32 × Int32)
  | 0, _, _, _, _ => none
  | n + 1, x3, thenX, thenY, thenMet => mm_g (mm_ck (104 + x2) 238) (if (v (104 + x2).toNatClampNeg) ≤ x3 then some ((-1), thenX, thenY, thenMet) else (f_X13_at x2 x3).bind fun q61 => mm_g (mm_ck q61 238) ((f_X13_steps thenX thenY (v q61.toNatClampNeg)).bind fun q65 => if q65.1 = 0 then some (x3, q65.2.1, q65.2.2, thenMet) else (f_X13_cell q65.2.1 q65.2.2).bind fun q80 => (f_X13_isFree v q80).bind fun q83 => if q83 = 0 then some (x3, q65.2.1, q65.2.2, thenMet) else (f_X13_cell q65.2.1 q65.2.2).bind fun q98 => (f_X13_isTaken K v q98 x1).bind fun q102 => if q102 = 0 then if thenX = 4 then f_X13_bars_L35 K v x1 x2 n (x3 + 1) q65.2.1 q65.2.2 (thenMet + 0) else if q65.2.1 = 4 then f_X13_bars_L35 K v x1 x2 n (x3 + 1) q65.2.1 q65.2.2 (thenMet + 1) else f_X13_bars_L35 K v x1 x2 n (x3 + 1) q65.2.1 q65.2.2 (thenMet + 0) else some (x3, q65.2.1, q65.2.2, thenMet)))
def f_X13_bars (K : Nat) (v : Nat → Int32) (x1 : Int32) (x2 : Int32) : Option (Int32 × Int32 × Int32 × Int32) := (f_X13_of x1 1).bind fun q7 => mm_g (mm_ck q7 238) ((f_X13_of x1 2).bind fun q21 => mm_g (mm_ck q21 238) (f_X13_bars_L35 K v x1 x2 K 0 (v q7.toNatClampNeg) (v q21.toNatClampNeg) 0))
set_option maxHeartbeats 4000000 in
set_option maxRecDepth 100000 in
theorem c_X13_bars (l : Launch) {G : mm_G} {K : Nat} {w : va_W} {sz : Nat} {b : Nat} {thrown : Int32} {changes : Int32} {errorAt : Int32} {failedAt : Int32} {isSaved : Int32} {v : Nat → Int32} {before : Nat → Int32} {saved : Nat → Int32} {past : Nat → Int32} {far : Nat → Int32} {scratch : Nat → Int32} {best : Nat → Int32} {thenX : Int32} {thenY : Int32} {thenMet : Int32} {text : Nat → Int32} {line : Nat → Int32} {isLeft : Nat → Int32} {words : Nat → Int32} {wordAt : Nat → Int32} {textN : Int32} {hereP : Int32} {endP : Int32} {lineN : Int32} {isWrong : Int32} {isDoing : Int32} {x1 : Int32} {x2 : Int32} {X : Int32 × Int32 × Int32 × Int32} (hf : f_X13_bars K v x1 x2 = some X) (hp_this : At13 G w b thrown changes errorAt failedAt isSaved v before saved past far scratch best thenX thenY thenMet text line isLeft words wordAt textN hereP endP lineN isWrong isDoing) : Met l yX13_bars (Cond.code yX13_bars cX13_bars 5 (some .int) :: gAll) ({ frames := 3, cells := 0, slots := 0, locals := 65 }) (va_Pc [.ref b, .int x1, .int x2] (mm_Pre G w sz)) (mm_Qi G w sz (fun r w' => r = X.1 ∧ At13 G w' b thrown changes errorAt failedAt isSaved v before saved past far scratch best X.2.1 X.2.2.1 X.2.2.2 text line isLeft words wordAt textN hereP endP lineN isWrong isDoing ∧ mm_fr w w' b (b + 13))) 0 0 (va_A w sz) := by
  refine mm_headI [.ref b, .int x1, .int x2] (by decide +kernel) rfl (Nat.le_of_ble_eq_true rfl) ?_
  intro p e s m args below meth c A Q hsz hC hM hret ls hl
  have hx := hC.1.1
  have hb := hC.1.2.1
  have hl : lv_has ls 5 [(0, .ref b), (1, .int x1), (2, .int x2)] := hl
  have hF : mm_fr w w b (b + 13) := mm_fr.rf
  rw [f_X13_bars] at hf
  refine lv_aload_n hx hb dX13_bars_0 rfl (lv_at hl 0 rfl) ?_
  refine lv_aload_n hx hb dX13_bars_1 rfl (lv_at hl 0 rfl) ?_
  refine mm_get hC hM (k := 5) hp_this.1 rfl inAX13 (by decide) q7_10 rfl dX13_bars_2 ?_
  refine lv_iload_n hx hb dX13_bars_5 rfl (lv_at hl 1 rfl) ?_
  refine lv_iconst (v := 1) hx hb dX13_bars_6 (by decide) ?_
  obtain ⟨q7, hq7, hf⟩ := mm_bd hf
  refine mm_Si (rest := [.ref (b + 1), .ref b]) hC hM (c_X13_of l hq7) q7_126 q1_12 ykX13_of q7_124 q7_125 ⟨rfl, rfl⟩ ⟨Nat.le_of_ble_eq_true rfl, Nat.le_of_ble_eq_true rfl⟩ rfl hl.1 rfl (Nat.le_of_ble_eq_true rfl) dX13_bars_7 ⟨Nat.le_of_ble_eq_true rfl, Nat.le_of_ble_eq_true rfl⟩ (fun r w7 H locs hM hw => ?_)
  obtain ⟨hr, hw⟩ := hw
  rw [hr]
  rw [hw] at hM
  obtain ⟨hg10, hf⟩ := mm_gd hf
  refine mm_iald hC hM (hp_this.2.1) hg10 dX13_bars_10 ?_
  refine mm_put hC hM (k := 12) tyX13 hp_this.1 rfl inAX13 tyX13_ok nmX13 (by decide) q7_17 rfl rfl rfl rfl (Nat.le_of_ble_eq_true rfl) dX13_bars_11 (fun w11 H locs hM hm => ?_)
  have hp_this : At13 G w11 b thrown changes errorAt failedAt isSaved v before saved past far scratch best (v q7.toNatClampNeg) thenY thenMet text line isLeft words wordAt textN hereP endP lineN isWrong isDoing := ⟨hm.1, hm.keep (hp_this.2.1) (by omega), hm.keep (hp_this.2.2.1) (by omega), hm.keep (hp_this.2.2.2.1) (by omega), hm.keep (hp_this.2.2.2.2.1) (by omega), hm.keep (hp_this.2.2.2.2.2.1) (by omega), hm.keep (hp_this.2.2.2.2.2.2.1) (by omega), hm.keep (hp_this.2.2.2.2.2.2.2.1) (by omega), hm.keep (hp_this.2.2.2.2.2.2.2.2.1) (by omega), hm.keep (hp_this.2.2.2.2.2.2.2.2.2.1) (by omega), hm.keep (hp_this.2.2.2.2.2.2.2.2.2.2.1) (by omega), hm.keep (hp_this.2.2.2.2.2.2.2.2.2.2.2.1) (by omega), hm.keep (hp_this.2.2.2.2.2.2.2.2.2.2.2.2) (by omega)⟩
  have hF := hF.tr (hm.fr (by omega) (by omega))
  refine lv_aload_n hx hb dX13_bars_14 rfl (lv_at hl 0 rfl) ?_
  refine lv_aload_n hx hb dX13_bars_15 rfl (lv_at hl 0 rfl) ?_
  refine mm_get hC hM (k := 5) hp_this.1 rfl inAX13 (by decide) q7_10 rfl dX13_bars_16 ?_
  refine lv_iload_n hx hb dX13_bars_19 rfl (lv_at hl 1 rfl) ?_
  refine lv_iconst (v := 2) hx hb dX13_bars_20 (by decide) ?_
  obtain ⟨q21, hq21, hf⟩ := mm_bd hf
  refine mm_Si (rest := [.ref (b + 1), .ref b]) hC hM (c_X13_of l hq21) q7_126 q1_12 ykX13_of q7_124 q7_125 ⟨rfl, rfl⟩ ⟨Nat.le_of_ble_eq_true rfl, Nat.le_of_ble_eq_true rfl⟩ rfl hl.1 rfl (Nat.le_of_ble_eq_true rfl) dX13_bars_21 ⟨Nat.le_of_ble_eq_true rfl, Nat.le_of_ble_eq_true rfl⟩ (fun r w21 H locs hM hw => ?_)
  obtain ⟨hr, hw⟩ := hw
  rw [hr]
  rw [hw] at hM
  obtain ⟨hg24, hf⟩ := mm_gd hf
  refine mm_iald hC hM (hp_this.2.1) hg24 dX13_bars_24 ?_
  refine mm_put hC hM (k := 13) tyX13 hp_this.1 rfl inAX13 tyX13_ok nmX13 (by decide) q7_18 rfl rfl rfl rfl (Nat.le_of_ble_eq_true rfl) dX13_bars_25 (fun w25 H locs hM hm => ?_)
  have hp_this : At13 G w25 b thrown changes errorAt failedAt isSaved v before saved past far scratch best (v q7.toNatClampNeg) (v q21.toNatClampNeg) thenMet text line isLeft words wordAt textN hereP endP lineN isWrong isDoing := ⟨hm.1, hm.keep (hp_this.2.1) (by omega), hm.keep (hp_this.2.2.1) (by omega), hm.keep (hp_this.2.2.2.1) (by omega), hm.keep (hp_this.2.2.2.2.1) (by omega), hm.keep (hp_this.2.2.2.2.2.1) (by omega), hm.keep (hp_this.2.2.2.2.2.2.1) (by omega), hm.keep (hp_this.2.2.2.2.2.2.2.1) (by omega), hm.keep (hp_this.2.2.2.2.2.2.2.2.1) (by omega), hm.keep (hp_this.2.2.2.2.2.2.2.2.2.1) (by omega), hm.keep (hp_this.2.2.2.2.2.2.2.2.2.2.1) (by omega), hm.keep (hp_this.2.2.2.2.2.2.2.2.2.2.2.1) (by omega), hm.keep (hp_this.2.2.2.2.2.2.2.2.2.2.2.2) (by omega)⟩
  have hF := hF.tr (hm.fr (by omega) (by omega))
  refine lv_aload_n hx hb dX13_bars_28 rfl (lv_at hl 0 rfl) ?_
  refine lv_iconst (v := 0) hx hb dX13_bars_29 (by decide) ?_
  refine mm_put hC hM (k := 14) tyX13 hp_this.1 rfl inAX13 tyX13_ok nmX13 (by decide) q7_19 rfl rfl rfl rfl (Nat.le_of_ble_eq_true rfl) dX13_bars_30 (fun w30 H locs hM hm => ?_)
  have hp_this : At13 G w30 b thrown changes errorAt failedAt isSaved v before saved past far scratch best (v q7.toNatClampNeg) (v q21.toNatClampNeg) 0 text line isLeft words wordAt textN hereP endP lineN isWrong isDoing := ⟨hm.1, hm.keep (hp_this.2.1) (by omega), hm.keep (hp_this.2.2.1) (by omega), hm.keep (hp_this.2.2.2.1) (by omega), hm.keep (hp_this.2.2.2.2.1) (by omega), hm.keep (hp_this.2.2.2.2.2.1) (by omega), hm.keep (hp_this.2.2.2.2.2.2.1) (by omega), hm.keep (hp_this.2.2.2.2.2.2.2.1) (by omega), hm.keep (hp_this.2.2.2.2.2.2.2.2.1) (by omega), hm.keep (hp_this.2.2.2.2.2.2.2.2.2.1) (by omega), hm.keep (hp_this.2.2.2.2.2.2.2.2.2.2.1) (by omega), hm.keep (hp_this.2.2.2.2.2.2.2.2.2.2.2.1) (by omega), hm.keep (hp_this.2.2.2.2.2.2.2.2.2.2.2.2) (by omega)⟩
  have hF := hF.tr (hm.fr (by omega) (by omega))
  refine lv_iconst (v := 0) hx hb dX13_bars_33 (by decide) ?_
  refine lv_istore_n (lv' := [(3, .int 0), (0, .ref b), (1, .int x1), (2, .int x2)]) hx hb dX13_bars_34 rfl hl (by decide) rfl (fun ls hl => ?_)
  have L35 : ∀ (n : Nat) (L35_x3 : Int32) (L35_thenX : Int32) (L35_thenY : Int32) (L35_thenMet : Int32), f_X13_bars_L35 K v x1 x2 n L35_x3 L35_thenX L35_thenY L35_thenMet = some X → ∀ (L35_w : va_W) (H : Heap) (locs : List Loc), mm_S G A s.heap L35_w H locs → At13 G L35_w b thrown changes errorAt failedAt isSaved v before saved past far scratch best L35_thenX L35_thenY L35_thenMet text line isLeft words wordAt textN hereP endP lineN isWrong isDoing → mm_fr w L35_w b (b + 13) → ∀ (ls : Array Slot), lv_has ls 5 [(0, .ref b), (1, .int x1), (2, .int x2), (3, .int L35_x3)] → W p l e ({ frames := 3, cells := 0, slots := 0, locals := 65 } : Room) s m args below meth c H locs 0 0 Q (F0 m 35 ls []) := by
    intro n
    induction n with
    | zero => intro L35_x3 L35_thenX L35_thenY L35_thenMet hf; cases hf
    | succ n ih =>
      intro L35_x3 L35_thenX L35_thenY L35_thenMet hf L35_w H locs hM hp_this hF ls hl
      rw [f_X13_bars_L35] at hf
      refine lv_iload_n hx hb dX13_bars_35 rfl (lv_at hl 3 rfl) ?_
      refine lv_aload_n hx hb dX13_bars_36 rfl (lv_at hl 0 rfl) ?_
      refine mm_get hC hM (k := 5) hp_this.1 rfl inAX13 (by decide) q7_10 rfl dX13_bars_37 ?_
      refine lv_bipush (v := 104) hx hb dX13_bars_40 (by decide) ?_
      refine lv_iload_n hx hb dX13_bars_42 rfl (lv_at hl 2 rfl) ?_
      refine lv_iadd hx hb dX13_bars_43 ?_
      obtain ⟨hg44, hf⟩ := mm_gd hf
      refine mm_iald hC hM (hp_this.2.1) hg44 dX13_bars_44 ?_
      refine lv_icmp_ge (tgt := 144) hx hb dX13_bars_45 (by decide) (fun hcd => ?_) (fun hcd => ?_)
      · rw [if_pos hcd] at hf
        refine lv_iconst (v := (-1)) hx hb dX13_bars_144 (by decide) ?_
        cases hf
        exact hret hM dX13_bars_145 rfl ⟨rfl, hp_this, hF⟩
      · rw [if_neg hcd] at hf
        refine lv_aload_n hx hb dX13_bars_48 rfl (lv_at hl 0 rfl) ?_
        refine mm_get hC hM (k := 12) hp_this.1 rfl inAX13 (by decide) q7_17 rfl dX13_bars_49 ?_
        refine lv_istore (lv' := [(4, .int L35_thenX), (0, .ref b), (1, .int x1), (2, .int x2), (3, .int L35_x3)]) hx hb dX13_bars_52 hl (by decide) rfl (fun ls hl => ?_)
        refine lv_aload_n hx hb dX13_bars_54 rfl (lv_at hl 1 rfl) ?_
        refine lv_aload_n hx hb dX13_bars_55 rfl (lv_at hl 1 rfl) ?_
        refine mm_get hC hM (k := 5) hp_this.1 rfl inAX13 (by decide) q7_10 rfl dX13_bars_56 ?_
        refine lv_iload_n hx hb dX13_bars_59 rfl (lv_at hl 3 rfl) ?_
        refine lv_iload_n hx hb dX13_bars_60 rfl (lv_at hl 4 rfl) ?_
        obtain ⟨q61, hq61, hf⟩ := mm_bd hf
        refine mm_Si (rest := [.ref (b + 1), .ref b]) hC hM (c_X13_at l hq61) q8_31 q1_12 ykX13_at q8_29 q8_30 ⟨rfl, rfl⟩ ⟨Nat.le_of_ble_eq_true rfl, Nat.le_of_ble_eq_true rfl⟩ rfl hl.1 rfl (Nat.le_of_ble_eq_true rfl) dX13_bars_61 ⟨Nat.le_of_ble_eq_true rfl, Nat.le_of_ble_eq_true rfl⟩ (fun r w61 H locs hM hw => ?_)
        obtain ⟨hr, hw⟩ := hw
        rw [hr]
        rw [hw] at hM
        obtain ⟨hg64, hf⟩ := mm_gd hf
        refine mm_iald hC hM (hp_this.2.1) hg64 dX13_bars_64 ?_
        obtain ⟨q65, hq65, hf⟩ := mm_bd hf
        refine mm_Vi (rest := []) hC hM (c_X13_steps l hq65 hp_this) q8_109 q1_12 ykX13_steps q8_106 q8_108 qp_80cbccb6 hp_this.1 rfl ⟨rfl, rfl⟩ ⟨Nat.le_of_ble_eq_true rfl, Nat.le_of_ble_eq_true rfl⟩ rfl hl.1 rfl (Nat.le_of_ble_eq_true rfl) dX13_bars_65 ⟨Nat.le_of_ble_eq_true rfl, Nat.le_of_ble_eq_true rfl⟩ (fun r w65 H locs hM hw => ?_)
        obtain ⟨hr, hn_this, hfr⟩ := hw
        rw [hr]
        have hp_this := hn_this
        have hF := hF.tr (hfr.wide (by omega) (by omega))
        refine lv_if_eq (tgt := 108) hx hb dX13_bars_68 (by decide) (fun hcd => ?_) (fun hcd => ?_)
        · rw [if_pos hcd] at hf
          refine lv_iload_n hx hb dX13_bars_108 rfl (lv_at hl 4 rfl) ?_
          cases hf
          exact hret hM dX13_bars_109 rfl ⟨rfl, hp_this, hF⟩
        · rw [if_neg hcd] at hf
          refine lv_aload_n hx hb dX13_bars_71 rfl (lv_at hl 1 rfl) ?_
          refine lv_aload_n hx hb dX13_bars_72 rfl (lv_at hl 1 rfl) ?_
          refine mm_get hC hM (k := 12) hp_this.1 rfl inAX13 (by decide) q7_17 rfl dX13_bars_73 ?_
          refine lv_aload_n hx hb dX13_bars_76 rfl (lv_at hl 1 rfl) ?_
          refine mm_get hC hM (k := 13) hp_this.1 rfl inAX13 (by decide) q7_18 rfl dX13_bars_77 ?_
          obtain ⟨q80, hq80, hf⟩ := mm_bd hf
          refine mm_Si (rest := [.ref b]) hC hM (c_X13_cell l hq80) q7_115 q1_12 ykX13_cell q7_113 q7_114 ⟨rfl, rfl⟩ ⟨Nat.le_of_ble_eq_true rfl, Nat.le_of_ble_eq_true rfl⟩ rfl hl.1 rfl (Nat.le_of_ble_eq_true rfl) dX13_bars_80 ⟨Nat.le_of_ble_eq_true rfl, Nat.le_of_ble_eq_true rfl⟩ (fun r w80 H locs hM hw => ?_)
          obtain ⟨hr, hw⟩ := hw
          rw [hr]
          rw [hw] at hM
          obtain ⟨q83, hq83, hf⟩ := mm_bd hf
          refine mm_Vi (rest := []) hC hM (c_X13_isFree l hq83 hp_this) q7_165 q1_12 ykX13_isFree q7_162 q7_164 qp_41d31006 hp_this.1 rfl ⟨rfl, rfl⟩ ⟨Nat.le_of_ble_eq_true rfl, Nat.le_of_ble_eq_true rfl⟩ rfl hl.1 rfl (Nat.le_of_ble_eq_true rfl) dX13_bars_83 ⟨Nat.le_of_ble_eq_true rfl, Nat.le_of_ble_eq_true rfl⟩ (fun r w83 H locs hM hw => ?_)
          obtain ⟨hr, hw⟩ := hw
          rw [hr]
          rw [hw] at hM
          refine lv_if_eq (tgt := 108) hx hb dX13_bars_86 (by decide) (fun hcd => ?_) (fun hcd => ?_)
          · rw [if_pos hcd] at hf
            refine lv_iload_n hx hb dX13_bars_108 rfl (lv_at hl 4 rfl) ?_
            cases hf
            exact hret hM dX13_bars_109 rfl ⟨rfl, hp_this, hF⟩
          · rw [if_neg hcd] at hf
            refine lv_aload_n hx hb dX13_bars_89 rfl (lv_at hl 1 rfl) ?_
            refine lv_aload_n hx hb dX13_bars_90 rfl (lv_at hl 1 rfl) ?_
            refine mm_get hC hM (k := 12) hp_this.1 rfl inAX13 (by decide) q7_17 rfl dX13_bars_91 ?_
            refine lv_aload_n hx hb dX13_bars_94 rfl (lv_at hl 1 rfl) ?_
            refine mm_get hC hM (k := 13) hp_this.1 rfl inAX13 (by decide) q7_18 rfl dX13_bars_95 ?_
            obtain ⟨q98, hq98, hf⟩ := mm_bd hf
            refine mm_Si (rest := [.ref b]) hC hM (c_X13_cell l hq98) q7_115 q1_12 ykX13_cell q7_113 q7_114 ⟨rfl, rfl⟩ ⟨Nat.le_of_ble_eq_true rfl, Nat.le_of_ble_eq_true rfl⟩ rfl hl.1 rfl (Nat.le_of_ble_eq_true rfl) dX13_bars_98 ⟨Nat.le_of_ble_eq_true rfl, Nat.le_of_ble_eq_true rfl⟩ (fun r w98 H locs hM hw => ?_)
            obtain ⟨hr, hw⟩ := hw
            rw [hr]
            rw [hw] at hM
            refine lv_iload_n hx hb dX13_bars_101 rfl (lv_at hl 2 rfl) ?_
            obtain ⟨q102, hq102, hf⟩ := mm_bd hf
            refine mm_Vi (rest := []) hC hM (c_X13_isTaken l hq102 hp_this) q7_119 q1_12 ykX13_isTaken q7_116 q7_118 qp_afe37682 hp_this.1 rfl ⟨rfl, rfl⟩ ⟨Nat.le_of_ble_eq_true rfl, Nat.le_of_ble_eq_true rfl⟩ rfl hl.1 rfl (Nat.le_of_ble_eq_true rfl) dX13_bars_102 ⟨Nat.le_of_ble_eq_true rfl, Nat.le_of_ble_eq_true rfl⟩ (fun r w102 H locs hM hw => ?_)
            obtain ⟨hr, hw⟩ := hw
            rw [hr]
            rw [hw] at hM
            refine lv_if_eq (tgt := 110) hx hb dX13_bars_105 (by decide) (fun hcd => ?_) (fun hcd => ?_)
            · rw [if_pos hcd] at hf
              refine lv_aload_n hx hb dX13_bars_110 rfl (lv_at hl 1 rfl) ?_
              refine lv_dup hx hb dX13_bars_111 rfl ?_
              refine mm_get hC hM (k := 14) hp_this.1 rfl inAX13 (by decide) q7_19 rfl dX13_bars_112 ?_
              refine lv_iload hx hb dX13_bars_115 (lv_at hl 0 rfl) ?_
              refine lv_iconst (v := 4) hx hb dX13_bars_117 (by decide) ?_
              refine lv_icmp_eq (tgt := 133) hx hb dX13_bars_118 (by decide) (fun hcd => ?_) (fun hcd => ?_)
              · rw [if_pos hcd] at hf
                refine lv_iconst (v := 0) hx hb dX13_bars_133 (by decide) ?_
                refine lv_iadd hx hb dX13_bars_134 ?_
                refine mm_put hC hM (k := 14) tyX13 hp_this.1 rfl inAX13 tyX13_ok nmX13 (by decide) q7_19 rfl rfl rfl rfl (Nat.le_of_ble_eq_true rfl) dX13_bars_135 (fun w135 H locs hM hm => ?_)
                have hp_this : At13 G w135 b thrown changes errorAt failedAt isSaved v before saved past far scratch best q65.2.1 q65.2.2 (L35_thenMet + 0) text line isLeft words wordAt textN hereP endP lineN isWrong isDoing := ⟨hm.1, hm.keep (hp_this.2.1) (by omega), hm.keep (hp_this.2.2.1) (by omega), hm.keep (hp_this.2.2.2.1) (by omega), hm.keep (hp_this.2.2.2.2.1) (by omega), hm.keep (hp_this.2.2.2.2.2.1) (by omega), hm.keep (hp_this.2.2.2.2.2.2.1) (by omega), hm.keep (hp_this.2.2.2.2.2.2.2.1) (by omega), hm.keep (hp_this.2.2.2.2.2.2.2.2.1) (by omega), hm.keep (hp_this.2.2.2.2.2.2.2.2.2.1) (by omega), hm.keep (hp_this.2.2.2.2.2.2.2.2.2.2.1) (by omega), hm.keep (hp_this.2.2.2.2.2.2.2.2.2.2.2.1) (by omega), hm.keep (hp_this.2.2.2.2.2.2.2.2.2.2.2.2) (by omega)⟩
                have hF := hF.tr (hm.fr (by omega) (by omega))
                refine lv_iinc (v := (L35_x3 + 1)) (lv' := [(3, .int (L35_x3 + 1)), (4, .int L35_thenX), (0, .ref b), (1, .int x1), (2, .int x2)]) hx hb dX13_bars_138 hl (k := 4) rfl rfl (by decide) rfl (fun ls hl => ?_)
                refine lv_goto (tgt := 35) hx hb dX13_bars_141 (by decide) ?_
                exact ih _ _ _ _ hf _ _ _ hM hp_this hF _ (lv_sub hl [2, 3, 4, 0] rfl)
              · rw [if_neg hcd] at hf
                refine lv_aload_n hx hb dX13_bars_121 rfl (lv_at hl 1 rfl) ?_
                refine mm_get hC hM (k := 12) hp_this.1 rfl inAX13 (by decide) q7_17 rfl dX13_bars_122 ?_
                refine lv_iconst (v := 4) hx hb dX13_bars_125 (by decide) ?_
                refine lv_icmp_ne (tgt := 133) hx hb dX13_bars_126 (by decide) (fun hcd => ?_) (fun hcd => ?_)
                · rw [if_neg hcd] at hf
                  refine lv_iconst (v := 0) hx hb dX13_bars_133 (by decide) ?_
                  refine lv_iadd hx hb dX13_bars_134 ?_
                  refine mm_put hC hM (k := 14) tyX13 hp_this.1 rfl inAX13 tyX13_ok nmX13 (by decide) q7_19 rfl rfl rfl rfl (Nat.le_of_ble_eq_true rfl) dX13_bars_135 (fun w135 H locs hM hm => ?_)
                  have hp_this : At13 G w135 b thrown changes errorAt failedAt isSaved v before saved past far scratch best q65.2.1 q65.2.2 (L35_thenMet + 0) text line isLeft words wordAt textN hereP endP lineN isWrong isDoing := ⟨hm.1, hm.keep (hp_this.2.1) (by omega), hm.keep (hp_this.2.2.1) (by omega), hm.keep (hp_this.2.2.2.1) (by omega), hm.keep (hp_this.2.2.2.2.1) (by omega), hm.keep (hp_this.2.2.2.2.2.1) (by omega), hm.keep (hp_this.2.2.2.2.2.2.1) (by omega), hm.keep (hp_this.2.2.2.2.2.2.2.1) (by omega), hm.keep (hp_this.2.2.2.2.2.2.2.2.1) (by omega), hm.keep (hp_this.2.2.2.2.2.2.2.2.2.1) (by omega), hm.keep (hp_this.2.2.2.2.2.2.2.2.2.2.1) (by omega), hm.keep (hp_this.2.2.2.2.2.2.2.2.2.2.2.1) (by omega), hm.keep (hp_this.2.2.2.2.2.2.2.2.2.2.2.2) (by omega)⟩
                  have hF := hF.tr (hm.fr (by omega) (by omega))
                  refine lv_iinc (v := (L35_x3 + 1)) (lv' := [(3, .int (L35_x3 + 1)), (4, .int L35_thenX), (0, .ref b), (1, .int x1), (2, .int x2)]) hx hb dX13_bars_138 hl (k := 4) rfl rfl (by decide) rfl (fun ls hl => ?_)
                  refine lv_goto (tgt := 35) hx hb dX13_bars_141 (by decide) ?_
                  exact ih _ _ _ _ hf _ _ _ hM hp_this hF _ (lv_sub hl [2, 3, 4, 0] rfl)
                · rw [if_pos hcd] at hf
                  refine lv_iconst (v := 1) hx hb dX13_bars_129 (by decide) ?_
                  refine lv_goto (tgt := 134) hx hb dX13_bars_130 (by decide) ?_
                  refine lv_iadd hx hb dX13_bars_134 ?_
                  refine mm_put hC hM (k := 14) tyX13 hp_this.1 rfl inAX13 tyX13_ok nmX13 (by decide) q7_19 rfl rfl rfl rfl (Nat.le_of_ble_eq_true rfl) dX13_bars_135 (fun w135 H locs hM hm => ?_)
                  have hp_this : At13 G w135 b thrown changes errorAt failedAt isSaved v before saved past far scratch best q65.2.1 q65.2.2 (L35_thenMet + 1) text line isLeft words wordAt textN hereP endP lineN isWrong isDoing := ⟨hm.1, hm.keep (hp_this.2.1) (by omega), hm.keep (hp_this.2.2.1) (by omega), hm.keep (hp_this.2.2.2.1) (by omega), hm.keep (hp_this.2.2.2.2.1) (by omega), hm.keep (hp_this.2.2.2.2.2.1) (by omega), hm.keep (hp_this.2.2.2.2.2.2.1) (by omega), hm.keep (hp_this.2.2.2.2.2.2.2.1) (by omega), hm.keep (hp_this.2.2.2.2.2.2.2.2.1) (by omega), hm.keep (hp_this.2.2.2.2.2.2.2.2.2.1) (by omega), hm.keep (hp_this.2.2.2.2.2.2.2.2.2.2.1) (by omega), hm.keep (hp_this.2.2.2.2.2.2.2.2.2.2.2.1) (by omega), hm.keep (hp_this.2.2.2.2.2.2.2.2.2.2.2.2) (by omega)⟩
                  have hF := hF.tr (hm.fr (by omega) (by omega))
                  refine lv_iinc (v := (L35_x3 + 1)) (lv' := [(3, .int (L35_x3 + 1)), (4, .int L35_thenX), (0, .ref b), (1, .int x1), (2, .int x2)]) hx hb dX13_bars_138 hl (k := 4) rfl rfl (by decide) rfl (fun ls hl => ?_)
                  refine lv_goto (tgt := 35) hx hb dX13_bars_141 (by decide) ?_
                  exact ih _ _ _ _ hf _ _ _ hM hp_this hF _ (lv_sub hl [2, 3, 4, 0] rfl)
            · rw [if_neg hcd] at hf
              refine lv_iload_n hx hb dX13_bars_108 rfl (lv_at hl 4 rfl) ?_
              cases hf
              exact hret hM dX13_bars_109 rfl ⟨rfl, hp_this, hF⟩
  exact L35 K _ _ _ _ hf _ _ _ hM hp_this hF _ (lv_sub hl [1, 2, 3, 0] rfl)
def f_X13_sails (K : Nat) (thrown : Int32) (v : Nat → Int32) (thenX : Int32) (thenY : Int32) (thenMet : Int32) (x1 : Int32) (x2 : Int32) : Option (Int32 × Int32 × (Nat → Int32) × Int32 × Int32 × Int32) := if 0 ≤ x1 then (f_X13_isPlan x2).bind fun q11 => if q11 = 0 then (f_X13_fail 2).bind fun q19 => some (q19.1, q19.2, v, thenX, thenY, thenMet) else (f_X13_bars K v x1 x2).bind fun q26 => if q26.1 < 0 then mm_g (mm_ck (104 + x2) 238) ((f_X13_of x1 1).bind fun q56 => mm_g (mm_ck q56 238) ((f_X13_of x1 2).bind fun q70 => mm_g (mm_ck q70 238) ((f_X13_of x1 3).bind fun q84 => mm_g (mm_ck q84 238) (mm_g (mm_ck q84 238) (some (((v (104 + x2).toNatClampNeg) ||| 1), thrown, (upd (upd (upd (upd v q56.toNatClampNeg q26.2.1) q70.toNatClampNeg q26.2.2.1) q84.toNatClampNeg (((upd (upd v q56.toNatClampNeg q26.2.1) q70.toNatClampNeg q26.2.2.1) q84.toNatClampNeg) + ((v (104 + x2).toNatClampNeg) ||| 1))) 6 (((upd (upd (upd v q56.toNatClampNeg q26.2.1) q70.toNatClampNeg q26.2.2.1) q84.toNatClampNeg (((upd (upd v q56.toNatClampNeg q26.2.1) q70.toNatClampNeg q26.2.2.1) q84.toNatClampNeg) + ((v (104 + x2).toNatClampNeg) ||| 1))) 6) + q26.2.2.2)), q26.2.1, q26.2.2.1, q26.2.2.2)))))) else (f_X13_fail 3).bind fun q34 => some (q34.1, q34.2, v, q26.2.1, q26.2.2.1, q26.2.2.2) else (f_X13_fail 1).bind fun q6 => some (q6.1, q6.2, v, thenX, thenY, thenMet)
set_option maxHeartbeats 4000000 in
set_option maxRecDepth 100000 in
theorem c_X13_sails (l : Launch) {G : mm_G} {K : Nat} {w : va_W} {sz : Nat} {b : Nat} {thrown : Int32} {changes : Int32} {errorAt : Int32} {failedAt : Int32} {isSaved : Int32} {v : Nat → Int32} {before : Nat → Int32} {saved : Nat → Int32} {past : Nat → Int32} {far : Nat → Int32} {scratch : Nat → Int32} {best : Nat → Int32} {thenX : Int32} {thenY : Int32} {thenMet : Int32} {text : Nat → Int32} {line : Nat → Int32} {isLeft : Nat → Int32} {words : Nat → Int32} {wordAt : Nat → Int32} {textN : Int32} {hereP : Int32} {endP : Int32} {lineN : Int32} {isWrong : Int32} {isDoing : Int32} {x1 : Int32} {x2 : Int32} {X : Int32 × Int32 × (Nat → Int32) × Int32 × Int32 × Int32} (hf : f_X13_sails K thrown v thenX thenY thenMet x1 x2 = some X) (hp_this : At13 G w b thrown changes errorAt failedAt isSaved v before saved past far scratch best thenX thenY thenMet text line isLeft words wordAt textN hereP endP lineN isWrong isDoing) : Met l yX13_sails (Cond.code yX13_sails cX13_sails 4 (some .int) :: gAll) ({ frames := 4, cells := 0, slots := 0, locals := 89 }) (va_Pc [.ref b, .int x1, .int x2] (mm_Pre G w sz)) (mm_Qi G w sz (fun r w' => r = X.1 ∧ At13 G w' b X.2.1 changes errorAt failedAt isSaved X.2.2.1 before saved past far scratch best X.2.2.2.1 X.2.2.2.2.1 X.2.2.2.2.2 text line isLeft words wordAt textN hereP endP lineN isWrong isDoing ∧ mm_fr w w' b (b + 13))) 0 0 (va_A w sz) := by
  refine mm_headI [.ref b, .int x1, .int x2] (by decide +kernel) rfl (Nat.le_of_ble_eq_true rfl) ?_
  intro p e s m args below meth c A Q hsz hC hM hret ls hl
  have hx := hC.1.1
  have hb := hC.1.2.1
  have hl : lv_has ls 4 [(0, .ref b), (1, .int x1), (2, .int x2)] := hl
  have hF : mm_fr w w b (b + 13) := mm_fr.rf
  rw [f_X13_sails] at hf
  refine lv_iload_n hx hb dX13_sails_0 rfl (lv_at hl 1 rfl) ?_
  refine lv_if_ge (tgt := 10) hx hb dX13_sails_1 (by decide) (fun hcd => ?_) (fun hcd => ?_)
  · rw [if_pos hcd] at hf
    refine lv_iload_n hx hb dX13_sails_10 rfl (lv_at hl 2 rfl) ?_
    obtain ⟨q11, hq11, hf⟩ := mm_bd hf
    refine mm_Si (rest := []) hC hM (c_X13_isPlan l hq11) q8_28 q1_12 ykX13_isPlan q8_26 q8_27 ⟨rfl, rfl⟩ ⟨Nat.le_of_ble_eq_true rfl, Nat.le_of_ble_eq_true rfl⟩ rfl hl.1 rfl (Nat.le_of_ble_eq_true rfl) dX13_sails_11 ⟨Nat.le_of_ble_eq_true rfl, Nat.le_of_ble_eq_true rfl⟩ (fun r w11 H locs hM hw => ?_)
    obtain ⟨hr, hw⟩ := hw
    rw [hr]
    rw [hw] at hM
    refine lv_if_ne (tgt := 23) hx hb dX13_sails_14 (by decide) (fun hcd => ?_) (fun hcd => ?_)
    · rw [if_neg hcd] at hf
      refine lv_aload_n hx hb dX13_sails_23 rfl (lv_at hl 0 rfl) ?_
      refine lv_iload_n hx hb dX13_sails_24 rfl (lv_at hl 1 rfl) ?_
      refine lv_iload_n hx hb dX13_sails_25 rfl (lv_at hl 2 rfl) ?_
      obtain ⟨q26, hq26, hf⟩ := mm_bd hf
      refine mm_Vi (rest := []) hC hM (c_X13_bars l hq26 hp_this) q8_105 q1_12 ykX13_bars q8_102 q8_104 qp_1f5bcead hp_this.1 rfl ⟨rfl, rfl⟩ ⟨Nat.le_of_ble_eq_true rfl, Nat.le_of_ble_eq_true rfl⟩ rfl hl.1 rfl (Nat.le_of_ble_eq_true rfl) dX13_sails_26 ⟨Nat.le_of_ble_eq_true rfl, Nat.le_of_ble_eq_true rfl⟩ (fun r w26 H locs hM hw => ?_)
      obtain ⟨hr, hn_this, hfr⟩ := hw
      rw [hr]
      have hp_this := hn_this
      have hF := hF.tr (hfr.wide (by omega) (by omega))
      refine lv_if_lt (tgt := 38) hx hb dX13_sails_29 (by decide) (fun hcd => ?_) (fun hcd => ?_)
      · rw [if_pos hcd] at hf
        refine lv_aload_n hx hb dX13_sails_38 rfl (lv_at hl 0 rfl) ?_
        refine mm_get hC hM (k := 5) hp_this.1 rfl inAX13 (by decide) q7_10 rfl dX13_sails_39 ?_
        refine lv_bipush (v := 104) hx hb dX13_sails_42 (by decide) ?_
        refine lv_iload_n hx hb dX13_sails_44 rfl (lv_at hl 2 rfl) ?_
        refine lv_iadd hx hb dX13_sails_45 ?_
        obtain ⟨hg46, hf⟩ := mm_gd hf
        refine mm_iald hC hM (hp_this.2.1) hg46 dX13_sails_46 ?_
        refine lv_iconst (v := 1) hx hb dX13_sails_47 (by decide) ?_
        refine lv_ior hx hb dX13_sails_48 ?_
        refine lv_istore_n (lv' := [(3, .int ((v (104 + x2).toNatClampNeg) ||| 1)), (0, .ref b), (1, .int x1), (2, .int x2)]) hx hb dX13_sails_49 rfl hl (by decide) rfl (fun ls hl => ?_)
        refine lv_aload_n hx hb dX13_sails_50 rfl (lv_at hl 1 rfl) ?_
        refine mm_get hC hM (k := 5) hp_this.1 rfl inAX13 (by decide) q7_10 rfl dX13_sails_51 ?_
        refine lv_iload_n hx hb dX13_sails_54 rfl (lv_at hl 2 rfl) ?_
        refine lv_iconst (v := 1) hx hb dX13_sails_55 (by decide) ?_
        obtain ⟨q56, hq56, hf⟩ := mm_bd hf
        refine mm_Si (rest := [.ref (b + 1)]) hC hM (c_X13_of l hq56) q7_126 q1_12 ykX13_of q7_124 q7_125 ⟨rfl, rfl⟩ ⟨Nat.le_of_ble_eq_true rfl, Nat.le_of_ble_eq_true rfl⟩ rfl hl.1 rfl (Nat.le_of_ble_eq_true rfl) dX13_sails_56 ⟨Nat.le_of_ble_eq_true rfl, Nat.le_of_ble_eq_true rfl⟩ (fun r w56 H locs hM hw => ?_)
        obtain ⟨hr, hw⟩ := hw
        rw [hr]
        rw [hw] at hM
        refine lv_aload_n hx hb dX13_sails_59 rfl (lv_at hl 1 rfl) ?_
        refine mm_get hC hM (k := 12) hp_this.1 rfl inAX13 (by decide) q7_17 rfl dX13_sails_60 ?_
        obtain ⟨hg63, hf⟩ := mm_gd hf
        refine mm_iast hC hM (hp_this.2.1) hg63 dX13_sails_63 (fun w63 H locs hM hm => ?_)
        have hp_this : At13 G w63 b thrown changes errorAt failedAt isSaved (upd v q56.toNatClampNeg q26.2.1) before saved past far scratch best q26.2.1 q26.2.2.1 q26.2.2.2 text line isLeft words wordAt textN hereP endP lineN isWrong isDoing := ⟨hm.keep (hp_this.1) (by omega), hm.1, hm.keep (hp_this.2.2.1) (by omega), hm.keep (hp_this.2.2.2.1) (by omega), hm.keep (hp_this.2.2.2.2.1) (by omega), hm.keep (hp_this.2.2.2.2.2.1) (by omega), hm.keep (hp_this.2.2.2.2.2.2.1) (by omega), hm.keep (hp_this.2.2.2.2.2.2.2.1) (by omega), hm.keep (hp_this.2.2.2.2.2.2.2.2.1) (by omega), hm.keep (hp_this.2.2.2.2.2.2.2.2.2.1) (by omega), hm.keep (hp_this.2.2.2.2.2.2.2.2.2.2.1) (by omega), hm.keep (hp_this.2.2.2.2.2.2.2.2.2.2.2.1) (by omega), hm.keep (hp_this.2.2.2.2.2.2.2.2.2.2.2.2) (by omega)⟩
        have hF := hF.tr (hm.fr (by omega) (by omega))
        refine lv_aload_n hx hb dX13_sails_64 rfl (lv_at hl 1 rfl) ?_
        refine mm_get hC hM (k := 5) hp_this.1 rfl inAX13 (by decide) q7_10 rfl dX13_sails_65 ?_
        refine lv_iload_n hx hb dX13_sails_68 rfl (lv_at hl 2 rfl) ?_
        refine lv_iconst (v := 2) hx hb dX13_sails_69 (by decide) ?_
        obtain ⟨q70, hq70, hf⟩ := mm_bd hf
        refine mm_Si (rest := [.ref (b + 1)]) hC hM (c_X13_of l hq70) q7_126 q1_12 ykX13_of q7_124 q7_125 ⟨rfl, rfl⟩ ⟨Nat.le_of_ble_eq_true rfl, Nat.le_of_ble_eq_true rfl⟩ rfl hl.1 rfl (Nat.le_of_ble_eq_true rfl) dX13_sails_70 ⟨Nat.le_of_ble_eq_true rfl, Nat.le_of_ble_eq_true rfl⟩ (fun r w70 H locs hM hw => ?_)
        obtain ⟨hr, hw⟩ := hw
        rw [hr]
        rw [hw] at hM
        refine lv_aload_n hx hb dX13_sails_73 rfl (lv_at hl 1 rfl) ?_
        refine mm_get hC hM (k := 13) hp_this.1 rfl inAX13 (by decide) q7_18 rfl dX13_sails_74 ?_
        obtain ⟨hg77, hf⟩ := mm_gd hf
        refine mm_iast hC hM (hp_this.2.1) hg77 dX13_sails_77 (fun w77 H locs hM hm => ?_)
        have hp_this : At13 G w77 b thrown changes errorAt failedAt isSaved (upd (upd v q56.toNatClampNeg q26.2.1) q70.toNatClampNeg q26.2.2.1) before saved past far scratch best q26.2.1 q26.2.2.1 q26.2.2.2 text line isLeft words wordAt textN hereP endP lineN isWrong isDoing := ⟨hm.keep (hp_this.1) (by omega), hm.1, hm.keep (hp_this.2.2.1) (by omega), hm.keep (hp_this.2.2.2.1) (by omega), hm.keep (hp_this.2.2.2.2.1) (by omega), hm.keep (hp_this.2.2.2.2.2.1) (by omega), hm.keep (hp_this.2.2.2.2.2.2.1) (by omega), hm.keep (hp_this.2.2.2.2.2.2.2.1) (by omega), hm.keep (hp_this.2.2.2.2.2.2.2.2.1) (by omega), hm.keep (hp_this.2.2.2.2.2.2.2.2.2.1) (by omega), hm.keep (hp_this.2.2.2.2.2.2.2.2.2.2.1) (by omega), hm.keep (hp_this.2.2.2.2.2.2.2.2.2.2.2.1) (by omega), hm.keep (hp_this.2.2.2.2.2.2.2.2.2.2.2.2) (by omega)⟩
        have hF := hF.tr (hm.fr (by omega) (by omega))
        refine lv_aload_n hx hb dX13_sails_78 rfl (lv_at hl 1 rfl) ?_
        refine mm_get hC hM (k := 5) hp_this.1 rfl inAX13 (by decide) q7_10 rfl dX13_sails_79 ?_
        refine lv_iload_n hx hb dX13_sails_82 rfl (lv_at hl 2 rfl) ?_
        refine lv_iconst (v := 3) hx hb dX13_sails_83 (by decide) ?_
        obtain ⟨q84, hq84, hf⟩ := mm_bd hf
        refine mm_Si (rest := [.ref (b + 1)]) hC hM (c_X13_of l hq84) q7_126 q1_12 ykX13_of q7_124 q7_125 ⟨rfl, rfl⟩ ⟨Nat.le_of_ble_eq_true rfl, Nat.le_of_ble_eq_true rfl⟩ rfl hl.1 rfl (Nat.le_of_ble_eq_true rfl) dX13_sails_84 ⟨Nat.le_of_ble_eq_true rfl, Nat.le_of_ble_eq_true rfl⟩ (fun r w84 H locs hM hw => ?_)
        obtain ⟨hr, hw⟩ := hw
        rw [hr]
        rw [hw] at hM
        refine lv_dup2_11 hx hb dX13_sails_87 rfl rfl ?_
        obtain ⟨hg88, hf⟩ := mm_gd hf
        refine mm_iald hC hM (hp_this.2.1) hg88 dX13_sails_88 ?_
        refine lv_iload_n hx hb dX13_sails_89 rfl (lv_at hl 0 rfl) ?_
        refine lv_iadd hx hb dX13_sails_90 ?_
        obtain ⟨hg91, hf⟩ := mm_gd hf
        refine mm_iast hC hM (hp_this.2.1) hg91 dX13_sails_91 (fun w91 H locs hM hm => ?_)
        have hp_this : At13 G w91 b thrown changes errorAt failedAt isSaved (upd (upd (upd v q56.toNatClampNeg q26.2.1) q70.toNatClampNeg q26.2.2.1) q84.toNatClampNeg (((upd (upd v q56.toNatClampNeg q26.2.1) q70.toNatClampNeg q26.2.2.1) q84.toNatClampNeg) + ((v (104 + x2).toNatClampNeg) ||| 1))) before saved past far scratch best q26.2.1 q26.2.2.1 q26.2.2.2 text line isLeft words wordAt textN hereP endP lineN isWrong isDoing := ⟨hm.keep (hp_this.1) (by omega), hm.1, hm.keep (hp_this.2.2.1) (by omega), hm.keep (hp_this.2.2.2.1) (by omega), hm.keep (hp_this.2.2.2.2.1) (by omega), hm.keep (hp_this.2.2.2.2.2.1) (by omega), hm.keep (hp_this.2.2.2.2.2.2.1) (by omega), hm.keep (hp_this.2.2.2.2.2.2.2.1) (by omega), hm.keep (hp_this.2.2.2.2.2.2.2.2.1) (by omega), hm.keep (hp_this.2.2.2.2.2.2.2.2.2.1) (by omega), hm.keep (hp_this.2.2.2.2.2.2.2.2.2.2.1) (by omega), hm.keep (hp_this.2.2.2.2.2.2.2.2.2.2.2.1) (by omega), hm.keep (hp_this.2.2.2.2.2.2.2.2.2.2.2.2) (by omega)⟩
        have hF := hF.tr (hm.fr (by omega) (by omega))
        refine lv_aload_n hx hb dX13_sails_92 rfl (lv_at hl 1 rfl) ?_
        refine mm_get hC hM (k := 5) hp_this.1 rfl inAX13 (by decide) q7_10 rfl dX13_sails_93 ?_
        refine lv_bipush (v := 6) hx hb dX13_sails_96 (by decide) ?_
        refine lv_dup2_11 hx hb dX13_sails_98 rfl rfl ?_
        refine mm_ialdN (N := 6) hC hM (hp_this.2.1) (by decide) (by unfold vp_in; decide) dX13_sails_99 ?_
        refine lv_aload_n hx hb dX13_sails_100 rfl (lv_at hl 1 rfl) ?_
        refine mm_get hC hM (k := 14) hp_this.1 rfl inAX13 (by decide) q7_19 rfl dX13_sails_101 ?_
        refine lv_iadd hx hb dX13_sails_104 ?_
        refine mm_iastN (N := 6) hC hM (hp_this.2.1) (by decide) (by unfold vp_in; decide) dX13_sails_105 (fun w105 H locs hM hm => ?_)
        have hp_this : At13 G w105 b thrown changes errorAt failedAt isSaved (upd (upd (upd (upd v q56.toNatClampNeg q26.2.1) q70.toNatClampNeg q26.2.2.1) q84.toNatClampNeg (((upd (upd v q56.toNatClampNeg q26.2.1) q70.toNatClampNeg q26.2.2.1) q84.toNatClampNeg) + ((v (104 + x2).toNatClampNeg) ||| 1))) 6 (((upd (upd (upd v q56.toNatClampNeg q26.2.1) q70.toNatClampNeg q26.2.2.1) q84.toNatClampNeg (((upd (upd v q56.toNatClampNeg q26.2.1) q70.toNatClampNeg q26.2.2.1) q84.toNatClampNeg) + ((v (104 + x2).toNatClampNeg) ||| 1))) 6) + q26.2.2.2)) before saved past far scratch best q26.2.1 q26.2.2.1 q26.2.2.2 text line isLeft words wordAt textN hereP endP lineN isWrong isDoing := ⟨hm.keep (hp_this.1) (by omega), hm.1, hm.keep (hp_this.2.2.1) (by omega), hm.keep (hp_this.2.2.2.1) (by omega), hm.keep (hp_this.2.2.2.2.1) (by omega), hm.keep (hp_this.2.2.2.2.2.1) (by omega), hm.keep (hp_this.2.2.2.2.2.2.1) (by omega), hm.keep (hp_this.2.2.2.2.2.2.2.1) (by omega), hm.keep (hp_this.2.2.2.2.2.2.2.2.1) (by omega), hm.keep (hp_this.2.2.2.2.2.2.2.2.2.1) (by omega), hm.keep (hp_this.2.2.2.2.2.2.2.2.2.2.1) (by omega), hm.keep (hp_this.2.2.2.2.2.2.2.2.2.2.2.1) (by omega), hm.keep (hp_this.2.2.2.2.2.2.2.2.2.2.2.2) (by omega)⟩
        have hF := hF.tr (hm.fr (by omega) (by omega))
        refine lv_iload_n hx hb dX13_sails_106 rfl (lv_at hl 0 rfl) ?_
        cases hf
        exact hret hM dX13_sails_107 rfl ⟨rfl, hp_this, hF⟩
      · rw [if_neg hcd] at hf
        refine lv_aload_n hx hb dX13_sails_32 rfl (lv_at hl 0 rfl) ?_
        refine lv_iconst (v := 3) hx hb dX13_sails_33 (by decide) ?_
        obtain ⟨q34, hq34, hf⟩ := mm_bd hf
        refine mm_Vi (rest := []) hC hM (c_X13_fail l hq34 hp_this) q7_112 q1_12 ykX13_fail q7_109 q7_111 qp_bcc4f98e hp_this.1 rfl ⟨rfl, rfl⟩ ⟨Nat.le_of_ble_eq_true rfl, Nat.le_of_ble_eq_true rfl⟩ rfl hl.1 rfl (Nat.le_of_ble_eq_true rfl) dX13_sails_34 ⟨Nat.le_of_ble_eq_true rfl, Nat.le_of_ble_eq_true rfl⟩ (fun r w34 H locs hM hw => ?_)
        obtain ⟨hr, hn_this, hfr⟩ := hw
        rw [hr]
        have hp_this := hn_this
        have hF := hF.tr (hfr.wide (by omega) (by omega))
        cases hf
        exact hret hM dX13_sails_37 rfl ⟨rfl, hp_this, hF⟩
    · rw [if_pos hcd] at hf
      refine lv_aload_n hx hb dX13_sails_17 rfl (lv_at hl 0 rfl) ?_
      refine lv_iconst (v := 2) hx hb dX13_sails_18 (by decide) ?_
      obtain ⟨q19, hq19, hf⟩ := mm_bd hf
      refine mm_Vi (rest := []) hC hM (c_X13_fail l hq19 hp_this) q7_112 q1_12 ykX13_fail q7_109 q7_111 qp_bcc4f98e hp_this.1 rfl ⟨rfl, rfl⟩ ⟨Nat.le_of_ble_eq_true rfl, Nat.le_of_ble_eq_true rfl⟩ rfl hl.1 rfl (Nat.le_of_ble_eq_true rfl) dX13_sails_19 ⟨Nat.le_of_ble_eq_true rfl, Nat.le_of_ble_eq_true rfl⟩ (fun r w19 H locs hM hw => ?_)
      obtain ⟨hr, hn_this, hfr⟩ := hw
      rw [hr]
      have hp_this := hn_this
      have hF := hF.tr (hfr.wide (by omega) (by omega))
      cases hf
      exact hret hM dX13_sails_22 rfl ⟨rfl, hp_this, hF⟩
  · rw [if_neg hcd] at hf
    refine lv_aload_n hx hb dX13_sails_4 rfl (lv_at hl 0 rfl) ?_
    refine lv_iconst (v := 1) hx hb dX13_sails_5 (by decide) ?_
    obtain ⟨q6, hq6, hf⟩ := mm_bd hf
    refine mm_Vi (rest := []) hC hM (c_X13_fail l hq6 hp_this) q7_112 q1_12 ykX13_fail q7_109 q7_111 qp_bcc4f98e hp_this.1 rfl ⟨rfl, rfl⟩ ⟨Nat.le_of_ble_eq_true rfl, Nat.le_of_ble_eq_true rfl⟩ rfl hl.1 rfl (Nat.le_of_ble_eq_true rfl) dX13_sails_6 ⟨Nat.le_of_ble_eq_true rfl, Nat.le_of_ble_eq_true rfl⟩ (fun r w6 H locs hM hw => ?_)
    obtain ⟨hr, hn_this, hfr⟩ := hw
    rw [hr]
    have hp_this := hn_this
    have hF := hF.tr (hfr.wide (by omega) (by omega))
    cases hf
    exact hret hM dX13_sails_9 rfl ⟨rfl, hp_this, hF⟩
def f_X13_sail (K : Nat) (changes : Int32) (v : Nat → Int32) (before : Nat → Int32) (past : Nat → Int32) (thenX : Int32) (thenY : Int32) (thenMet : Int32) (x1 : Int32) (x2 : Int32) : Option (Int32 × Int32 × Int32 × (Nat → Int32) × (Nat → Int32) × (Nat → Int32) × Int32 × Int32 × Int32) := (f_X13_begins K v before).bind fun q1 => (f_X13_find K v x1).bind fun q8 => (f_X13_sails K q1.1 v thenX thenY thenMet q8 x2).bind fun q12 => (f_X13_ends K q12.2.1 changes q12.2.2.1 q1.2 past q12.1).bind fun q15 => some (q15.1, q12.2.1, q15.2.1, q15.2.2.1, q1.2, q15.2.2.2, q12.2.2.2.1, q12.2.2.2.2.1, q12.2.2.2.2.2)
set_option maxHeartbeats 4000000 in
set_option maxRecDepth 100000 in
theorem c_X13_sail (l : Launch) {G : mm_G} {K : Nat} {w : va_W} {sz : Nat} {b : Nat} {thrown : Int32} {changes : Int32} {errorAt : Int32} {failedAt : Int32} {isSaved : Int32} {v : Nat → Int32} {before : Nat → Int32} {saved : Nat → Int32} {past : Nat → Int32} {far : Nat → Int32} {scratch : Nat → Int32} {best : Nat → Int32} {thenX : Int32} {thenY : Int32} {thenMet : Int32} {text : Nat → Int32} {line : Nat → Int32} {isLeft : Nat → Int32} {words : Nat → Int32} {wordAt : Nat → Int32} {textN : Int32} {hereP : Int32} {endP : Int32} {lineN : Int32} {isWrong : Int32} {isDoing : Int32} {x1 : Int32} {x2 : Int32} {X : Int32 × Int32 × Int32 × (Nat → Int32) × (Nat → Int32) × (Nat → Int32) × Int32 × Int32 × Int32} (hf : f_X13_sail K changes v before past thenX thenY thenMet x1 x2 = some X) (hp_this : At13 G w b thrown changes errorAt failedAt isSaved v before saved past far scratch best thenX thenY thenMet text line isLeft words wordAt textN hereP endP lineN isWrong isDoing) : Met l yX13_sail (Cond.code yX13_sail cX13_sail 3 (some .int) :: gAll) ({ frames := 5, cells := 0, slots := 0, locals := 112 }) (va_Pc [.ref b, .int x1, .int x2] (mm_Pre G w sz)) (mm_Qi G w sz (fun r w' => r = X.1 ∧ At13 G w' b X.2.1 X.2.2.1 errorAt failedAt isSaved X.2.2.2.1 X.2.2.2.2.1 saved X.2.2.2.2.2.1 far scratch best X.2.2.2.2.2.2.1 X.2.2.2.2.2.2.2.1 X.2.2.2.2.2.2.2.2 text line isLeft words wordAt textN hereP endP lineN isWrong isDoing ∧ mm_fr w w' b (b + 13))) 0 0 (va_A w sz) := by
  refine mm_headI [.ref b, .int x1, .int x2] (by decide +kernel) rfl (Nat.le_of_ble_eq_true rfl) ?_
  intro p e s m args below meth c A Q hsz hC hM hret ls hl
  have hx := hC.1.1
  have hb := hC.1.2.1
  have hl : lv_has ls 3 [(0, .ref b), (1, .int x1), (2, .int x2)] := hl
  have hF : mm_fr w w b (b + 13) := mm_fr.rf
  rw [f_X13_sail] at hf
  refine lv_aload_n hx hb dX13_sail_0 rfl (lv_at hl 0 rfl) ?_
  obtain ⟨q1, hq1, hf⟩ := mm_bd hf
  refine mm_Vv (rest := []) hC hM (c_X13_begins l hq1 hp_this) q7_95 q1_12 ykX13_begins q7_92 q7_94 qp_0e68fe50 hp_this.1 rfl ⟨rfl, rfl⟩ ⟨Nat.le_of_ble_eq_true rfl, Nat.le_of_ble_eq_true rfl⟩ rfl hl.1 rfl (Nat.le_of_ble_eq_true rfl) dX13_sail_1 ⟨Nat.le_of_ble_eq_true rfl, Nat.le_of_ble_eq_true rfl⟩ (fun w1 H locs hM hw => ?_)
  obtain ⟨hn_this, hfr⟩ := hw
  have hp_this := hn_this
  have hF := hF.tr (hfr.wide (by omega) (by omega))
  refine lv_aload_n hx hb dX13_sail_4 rfl (lv_at hl 0 rfl) ?_
  refine lv_aload_n hx hb dX13_sail_5 rfl (lv_at hl 0 rfl) ?_
  refine lv_aload_n hx hb dX13_sail_6 rfl (lv_at hl 0 rfl) ?_
  refine lv_iload_n hx hb dX13_sail_7 rfl (lv_at hl 1 rfl) ?_
  obtain ⟨q8, hq8, hf⟩ := mm_bd hf
  refine mm_Vi (rest := [.ref b, .ref b]) hC hM (c_X13_find l hq8 hp_this) q7_218 q1_12 ykX13_find q7_215 q7_217 qp_0f7fdc43 hp_this.1 rfl ⟨rfl, rfl⟩ ⟨Nat.le_of_ble_eq_true rfl, Nat.le_of_ble_eq_true rfl⟩ rfl hl.1 rfl (Nat.le_of_ble_eq_true rfl) dX13_sail_8 ⟨Nat.le_of_ble_eq_true rfl, Nat.le_of_ble_eq_true rfl⟩ (fun r w8 H locs hM hw => ?_)
  obtain ⟨hr, hw⟩ := hw
  rw [hr]
  rw [hw] at hM
  refine lv_iload_n hx hb dX13_sail_11 rfl (lv_at hl 2 rfl) ?_
  obtain ⟨q12, hq12, hf⟩ := mm_bd hf
  refine mm_Vi (rest := [.ref b]) hC hM (c_X13_sails l hq12 hp_this) q8_101 q1_12 ykX13_sails q8_98 q8_100 qp_26a0d01b hp_this.1 rfl ⟨rfl, rfl⟩ ⟨Nat.le_of_ble_eq_true rfl, Nat.le_of_ble_eq_true rfl⟩ rfl hl.1 rfl (Nat.le_of_ble_eq_true rfl) dX13_sail_12 ⟨Nat.le_of_ble_eq_true rfl, Nat.le_of_ble_eq_true rfl⟩ (fun r w12 H locs hM hw => ?_)
  obtain ⟨hr, hn_this, hfr⟩ := hw
  rw [hr]
  have hp_this := hn_this
  have hF := hF.tr (hfr.wide (by omega) (by omega))
  obtain ⟨q15, hq15, hf⟩ := mm_bd hf
  refine mm_Vi (rest := []) hC hM (c_X13_ends l hq15 hp_this) q7_133 q1_12 ykX13_ends q7_130 q7_132 qp_952383d2 hp_this.1 rfl ⟨rfl, rfl⟩ ⟨Nat.le_of_ble_eq_true rfl, Nat.le_of_ble_eq_true rfl⟩ rfl hl.1 rfl (Nat.le_of_ble_eq_true rfl) dX13_sail_15 ⟨Nat.le_of_ble_eq_true rfl, Nat.le_of_ble_eq_true rfl⟩ (fun r w15 H locs hM hw => ?_)
  obtain ⟨hr, hn_this, hfr⟩ := hw
  rw [hr]
  have hp_this := hn_this
  have hF := hF.tr (hfr.wide (by omega) (by omega))
  cases hf
  exact hret hM dX13_sail_18 rfl ⟨rfl, hp_this, hF⟩
def f_X13_blockedMove (K : Nat) (v : Nat → Int32) (thenX : Int32) (thenY : Int32) (thenMet : Int32) (x1 : Int32) (x2 : Int32) : Option (Int32 × Int32 × Int32 × Int32 × Int32) := (f_X13_find K v x1).bind fun q3 => if 0 ≤ q3 then (f_X13_isPlan x2).bind fun q14 => if q14 = 0 then some (0, 2, thenX, thenY, thenMet) else (f_X13_find K v x1).bind fun q38 => (f_X13_bars K v q38 x2).bind fun q42 => some (q42.1, 0, q42.2.1, q42.2.2.1, q42.2.2.2) else some (0, 1, thenX, thenY, thenMet)
set_option maxHeartbeats 4000000 in
set_option maxRecDepth 100000 in
theorem c_X13_blockedMove (l : Launch) {G : mm_G} {K : Nat} {w : va_W} {sz : Nat} {b : Nat} {thrown : Int32} {changes : Int32} {errorAt : Int32} {failedAt : Int32} {isSaved : Int32} {v : Nat → Int32} {before : Nat → Int32} {saved : Nat → Int32} {past : Nat → Int32} {far : Nat → Int32} {scratch : Nat → Int32} {best : Nat → Int32} {thenX : Int32} {thenY : Int32} {thenMet : Int32} {text : Nat → Int32} {line : Nat → Int32} {isLeft : Nat → Int32} {words : Nat → Int32} {wordAt : Nat → Int32} {textN : Int32} {hereP : Int32} {endP : Int32} {lineN : Int32} {isWrong : Int32} {isDoing : Int32} {x1 : Int32} {x2 : Int32} {X : Int32 × Int32 × Int32 × Int32 × Int32} (hf : f_X13_blockedMove K v thenX thenY thenMet x1 x2 = some X) (hp_this : At13 G w b thrown changes errorAt failedAt isSaved v before saved past far scratch best thenX thenY thenMet text line isLeft words wordAt textN hereP endP lineN isWrong isDoing) : Met l yX13_blockedMove (Cond.code yX13_blockedMove cX13_blockedMove 3 (some .int) :: gAll) ({ frames := 4, cells := 0, slots := 0, locals := 89 }) (va_Pc [.ref b, .int x1, .int x2] (mm_Pre G w sz)) (mm_Qi G w sz (fun r w' => r = X.1 ∧ At13 G w' b X.2.1 changes errorAt failedAt isSaved v before saved past far scratch best X.2.2.1 X.2.2.2.1 X.2.2.2.2 text line isLeft words wordAt textN hereP endP lineN isWrong isDoing ∧ mm_fr w w' b (b + 13))) 0 0 (va_A w sz) := by
  refine mm_headI [.ref b, .int x1, .int x2] (by decide +kernel) rfl (Nat.le_of_ble_eq_true rfl) ?_
  intro p e s m args below meth c A Q hsz hC hM hret ls hl
  have hx := hC.1.1
  have hb := hC.1.2.1
  have hl : lv_has ls 3 [(0, .ref b), (1, .int x1), (2, .int x2)] := hl
  have hF : mm_fr w w b (b + 13) := mm_fr.rf
  rw [f_X13_blockedMove] at hf
  refine lv_aload_n hx hb dX13_blockedMove_0 rfl (lv_at hl 0 rfl) ?_
  refine lv_aload_n hx hb dX13_blockedMove_1 rfl (lv_at hl 0 rfl) ?_
  refine lv_iload_n hx hb dX13_blockedMove_2 rfl (lv_at hl 1 rfl) ?_
  obtain ⟨q3, hq3, hf⟩ := mm_bd hf
  refine mm_Vi (rest := [.ref b]) hC hM (c_X13_find l hq3 hp_this) q7_218 q1_12 ykX13_find q7_215 q7_217 qp_0f7fdc43 hp_this.1 rfl ⟨rfl, rfl⟩ ⟨Nat.le_of_ble_eq_true rfl, Nat.le_of_ble_eq_true rfl⟩ rfl hl.1 rfl (Nat.le_of_ble_eq_true rfl) dX13_blockedMove_3 ⟨Nat.le_of_ble_eq_true rfl, Nat.le_of_ble_eq_true rfl⟩ (fun r w3 H locs hM hw => ?_)
  obtain ⟨hr, hw⟩ := hw
  rw [hr]
  rw [hw] at hM
  refine lv_if_ge (tgt := 13) hx hb dX13_blockedMove_6 (by decide) (fun hcd => ?_) (fun hcd => ?_)
  · rw [if_pos hcd] at hf
    refine lv_iload_n hx hb dX13_blockedMove_13 rfl (lv_at hl 2 rfl) ?_
    obtain ⟨q14, hq14, hf⟩ := mm_bd hf
    refine mm_Si (rest := [.ref b]) hC hM (c_X13_isPlan l hq14) q8_28 q1_12 ykX13_isPlan q8_26 q8_27 ⟨rfl, rfl⟩ ⟨Nat.le_of_ble_eq_true rfl, Nat.le_of_ble_eq_true rfl⟩ rfl hl.1 rfl (Nat.le_of_ble_eq_true rfl) dX13_blockedMove_14 ⟨Nat.le_of_ble_eq_true rfl, Nat.le_of_ble_eq_true rfl⟩ (fun r w14 H locs hM hw => ?_)
    obtain ⟨hr, hw⟩ := hw
    rw [hr]
    rw [hw] at hM
    refine lv_if_eq (tgt := 24) hx hb dX13_blockedMove_17 (by decide) (fun hcd => ?_) (fun hcd => ?_)
    · rw [if_pos hcd] at hf
      refine lv_iconst (v := 2) hx hb dX13_blockedMove_24 (by decide) ?_
      refine mm_put hC hM (k := 0) tyX13 hp_this.1 rfl inAX13 tyX13_ok nmX13 (by decide) q7_5 rfl rfl rfl rfl (Nat.le_of_ble_eq_true rfl) dX13_blockedMove_25 (fun w25 H locs hM hm => ?_)
      have hp_this : At13 G w25 b 2 changes errorAt failedAt isSaved v before saved past far scratch best thenX thenY thenMet text line isLeft words wordAt textN hereP endP lineN isWrong isDoing := ⟨hm.1, hm.keep (hp_this.2.1) (by omega), hm.keep (hp_this.2.2.1) (by omega), hm.keep (hp_this.2.2.2.1) (by omega), hm.keep (hp_this.2.2.2.2.1) (by omega), hm.keep (hp_this.2.2.2.2.2.1) (by omega), hm.keep (hp_this.2.2.2.2.2.2.1) (by omega), hm.keep (hp_this.2.2.2.2.2.2.2.1) (by omega), hm.keep (hp_this.2.2.2.2.2.2.2.2.1) (by omega), hm.keep (hp_this.2.2.2.2.2.2.2.2.2.1) (by omega), hm.keep (hp_this.2.2.2.2.2.2.2.2.2.2.1) (by omega), hm.keep (hp_this.2.2.2.2.2.2.2.2.2.2.2.1) (by omega), hm.keep (hp_this.2.2.2.2.2.2.2.2.2.2.2.2) (by omega)⟩
      have hF := hF.tr (hm.fr (by omega) (by omega))
      refine lv_aload_n hx hb dX13_blockedMove_28 rfl (lv_at hl 0 rfl) ?_
      refine mm_get hC hM (k := 0) hp_this.1 rfl inAX13 (by decide) q7_5 rfl dX13_blockedMove_29 ?_
      refine lv_if_ne (tgt := 48) hx hb dX13_blockedMove_32 (by decide) (fun _ => ?_) (fun c => absurd c (by decide))
      refine lv_iconst (v := 0) hx hb dX13_blockedMove_48 (by decide) ?_
      cases hf
      exact hret hM dX13_blockedMove_49 rfl ⟨rfl, hp_this, hF⟩
    · rw [if_neg hcd] at hf
      refine lv_iconst (v := 0) hx hb dX13_blockedMove_20 (by decide) ?_
      refine lv_goto (tgt := 25) hx hb dX13_blockedMove_21 (by decide) ?_
      refine mm_put hC hM (k := 0) tyX13 hp_this.1 rfl inAX13 tyX13_ok nmX13 (by decide) q7_5 rfl rfl rfl rfl (Nat.le_of_ble_eq_true rfl) dX13_blockedMove_25 (fun w25 H locs hM hm => ?_)
      have hp_this : At13 G w25 b 0 changes errorAt failedAt isSaved v before saved past far scratch best thenX thenY thenMet text line isLeft words wordAt textN hereP endP lineN isWrong isDoing := ⟨hm.1, hm.keep (hp_this.2.1) (by omega), hm.keep (hp_this.2.2.1) (by omega), hm.keep (hp_this.2.2.2.1) (by omega), hm.keep (hp_this.2.2.2.2.1) (by omega), hm.keep (hp_this.2.2.2.2.2.1) (by omega), hm.keep (hp_this.2.2.2.2.2.2.1) (by omega), hm.keep (hp_this.2.2.2.2.2.2.2.1) (by omega), hm.keep (hp_this.2.2.2.2.2.2.2.2.1) (by omega), hm.keep (hp_this.2.2.2.2.2.2.2.2.2.1) (by omega), hm.keep (hp_this.2.2.2.2.2.2.2.2.2.2.1) (by omega), hm.keep (hp_this.2.2.2.2.2.2.2.2.2.2.2.1) (by omega), hm.keep (hp_this.2.2.2.2.2.2.2.2.2.2.2.2) (by omega)⟩
      have hF := hF.tr (hm.fr (by omega) (by omega))
      refine lv_aload_n hx hb dX13_blockedMove_28 rfl (lv_at hl 0 rfl) ?_
      refine mm_get hC hM (k := 0) hp_this.1 rfl inAX13 (by decide) q7_5 rfl dX13_blockedMove_29 ?_
      refine lv_if_ne (tgt := 48) hx hb dX13_blockedMove_32 (by decide) (fun c => absurd (by decide) c) (fun _ => ?_)
      refine lv_aload_n hx hb dX13_blockedMove_35 rfl (lv_at hl 0 rfl) ?_
      refine lv_aload_n hx hb dX13_blockedMove_36 rfl (lv_at hl 0 rfl) ?_
      refine lv_iload_n hx hb dX13_blockedMove_37 rfl (lv_at hl 1 rfl) ?_
      obtain ⟨q38, hq38, hf⟩ := mm_bd hf
      refine mm_Vi (rest := [.ref b]) hC hM (c_X13_find l hq38 hp_this) q7_218 q1_12 ykX13_find q7_215 q7_217 qp_0f7fdc43 hp_this.1 rfl ⟨rfl, rfl⟩ ⟨Nat.le_of_ble_eq_true rfl, Nat.le_of_ble_eq_true rfl⟩ rfl hl.1 rfl (Nat.le_of_ble_eq_true rfl) dX13_blockedMove_38 ⟨Nat.le_of_ble_eq_true rfl, Nat.le_of_ble_eq_true rfl⟩ (fun r w38 H locs hM hw => ?_)
      obtain ⟨hr, hw⟩ := hw
      rw [hr]
      rw [hw] at hM
      refine lv_iload_n hx hb dX13_blockedMove_41 rfl (lv_at hl 2 rfl) ?_
      obtain ⟨q42, hq42, hf⟩ := mm_bd hf
      refine mm_Vi (rest := []) hC hM (c_X13_bars l hq42 hp_this) q8_105 q1_12 ykX13_bars q8_102 q8_104 qp_1f5bcead hp_this.1 rfl ⟨rfl, rfl⟩ ⟨Nat.le_of_ble_eq_true rfl, Nat.le_of_ble_eq_true rfl⟩ rfl hl.1 rfl (Nat.le_of_ble_eq_true rfl) dX13_blockedMove_42 ⟨Nat.le_of_ble_eq_true rfl, Nat.le_of_ble_eq_true rfl⟩ (fun r w42 H locs hM hw => ?_)
      obtain ⟨hr, hn_this, hfr⟩ := hw
      rw [hr]
      have hp_this := hn_this
      have hF := hF.tr (hfr.wide (by omega) (by omega))
      refine lv_goto (tgt := 49) hx hb dX13_blockedMove_45 (by decide) ?_
      cases hf
      exact hret hM dX13_blockedMove_49 rfl ⟨rfl, hp_this, hF⟩
  · rw [if_neg hcd] at hf
    refine lv_iconst (v := 1) hx hb dX13_blockedMove_9 (by decide) ?_
    refine lv_goto (tgt := 25) hx hb dX13_blockedMove_10 (by decide) ?_
    refine mm_put hC hM (k := 0) tyX13 hp_this.1 rfl inAX13 tyX13_ok nmX13 (by decide) q7_5 rfl rfl rfl rfl (Nat.le_of_ble_eq_true rfl) dX13_blockedMove_25 (fun w25 H locs hM hm => ?_)
    have hp_this : At13 G w25 b 1 changes errorAt failedAt isSaved v before saved past far scratch best thenX thenY thenMet text line isLeft words wordAt textN hereP endP lineN isWrong isDoing := ⟨hm.1, hm.keep (hp_this.2.1) (by omega), hm.keep (hp_this.2.2.1) (by omega), hm.keep (hp_this.2.2.2.1) (by omega), hm.keep (hp_this.2.2.2.2.1) (by omega), hm.keep (hp_this.2.2.2.2.2.1) (by omega), hm.keep (hp_this.2.2.2.2.2.2.1) (by omega), hm.keep (hp_this.2.2.2.2.2.2.2.1) (by omega), hm.keep (hp_this.2.2.2.2.2.2.2.2.1) (by omega), hm.keep (hp_this.2.2.2.2.2.2.2.2.2.1) (by omega), hm.keep (hp_this.2.2.2.2.2.2.2.2.2.2.1) (by omega), hm.keep (hp_this.2.2.2.2.2.2.2.2.2.2.2.1) (by omega), hm.keep (hp_this.2.2.2.2.2.2.2.2.2.2.2.2) (by omega)⟩
    have hF := hF.tr (hm.fr (by omega) (by omega))
    refine lv_aload_n hx hb dX13_blockedMove_28 rfl (lv_at hl 0 rfl) ?_
    refine mm_get hC hM (k := 0) hp_this.1 rfl inAX13 (by decide) q7_5 rfl dX13_blockedMove_29 ?_
    refine lv_if_ne (tgt := 48) hx hb dX13_blockedMove_32 (by decide) (fun _ => ?_) (fun c => absurd c (by decide))
    refine lv_iconst (v := 0) hx hb dX13_blockedMove_48 (by decide) ?_
    cases hf
    exact hret hM dX13_blockedMove_49 rfl ⟨rfl, hp_this, hF⟩
def f_X13_reeds (v : Nat → Int32) (x1 : Int32) : Option (Int32) := (f_X13_stands v x1).bind fun q2 => (f_X13_image x1).bind fun q6 => if q6 = x1 then some (q2 + 0) else (f_X13_image x1).bind fun q19 => (f_X13_stands v q19).bind fun q22 => some (q2 + q22)
set_option maxHeartbeats 4000000 in
set_option maxRecDepth 100000 in
theorem c_X13_reeds (l : Launch) {G : mm_G} {w : va_W} {sz : Nat} {b : Nat} {thrown : Int32} {changes : Int32} {errorAt : Int32} {failedAt : Int32} {isSaved : Int32} {v : Nat → Int32} {before : Nat → Int32} {saved : Nat → Int32} {past : Nat → Int32} {far : Nat → Int32} {scratch : Nat → Int32} {best : Nat → Int32} {thenX : Int32} {thenY : Int32} {thenMet : Int32} {text : Nat → Int32} {line : Nat → Int32} {isLeft : Nat → Int32} {words : Nat → Int32} {wordAt : Nat → Int32} {textN : Int32} {hereP : Int32} {endP : Int32} {lineN : Int32} {isWrong : Int32} {isDoing : Int32} {x1 : Int32} {X : Int32} (hf : f_X13_reeds v x1 = some X) (hp_this : At13 G w b thrown changes errorAt failedAt isSaved v before saved past far scratch best thenX thenY thenMet text line isLeft words wordAt textN hereP endP lineN isWrong isDoing) : Met l yX13_reeds (Cond.code yX13_reeds cX13_reeds 2 (some .int) :: gAll) ({ frames := 1, cells := 0, slots := 0, locals := 21 }) (va_Pc [.ref b, .int x1] (mm_Pre G w sz)) (mm_Qi G w sz (fun r w' => r = X ∧ w' = w)) 0 0 (va_A w sz) := by
  refine mm_headI [.ref b, .int x1] (by decide +kernel) rfl (Nat.le_of_ble_eq_true rfl) ?_
  intro p e s m args below meth c A Q hsz hC hM hret ls hl
  have hx := hC.1.1
  have hb := hC.1.2.1
  have hl : lv_has ls 2 [(0, .ref b), (1, .int x1)] := hl
  rw [f_X13_reeds] at hf
  refine lv_aload_n hx hb dX13_reeds_0 rfl (lv_at hl 0 rfl) ?_
  refine lv_iload_n hx hb dX13_reeds_1 rfl (lv_at hl 1 rfl) ?_
  obtain ⟨q2, hq2, hf⟩ := mm_bd hf
  refine mm_Vi (rest := []) hC hM (c_X13_stands l hq2 hp_this) q7_169 q1_12 ykX13_stands q7_166 q7_168 qp_0c8d64ed hp_this.1 rfl ⟨rfl, rfl⟩ ⟨Nat.le_of_ble_eq_true rfl, Nat.le_of_ble_eq_true rfl⟩ rfl hl.1 rfl (Nat.le_of_ble_eq_true rfl) dX13_reeds_2 ⟨Nat.le_of_ble_eq_true rfl, Nat.le_of_ble_eq_true rfl⟩ (fun r w2 H locs hM hw => ?_)
  obtain ⟨hr, hw⟩ := hw
  rw [hr]
  rw [hw] at hM
  refine lv_iload_n hx hb dX13_reeds_5 rfl (lv_at hl 1 rfl) ?_
  obtain ⟨q6, hq6, hf⟩ := mm_bd hf
  refine mm_Si (rest := [.int q2]) hC hM (c_X13_image l hq6) q7_129 q1_12 ykX13_image q7_127 q7_128 ⟨rfl, rfl⟩ ⟨Nat.le_of_ble_eq_true rfl, Nat.le_of_ble_eq_true rfl⟩ rfl hl.1 rfl (Nat.le_of_ble_eq_true rfl) dX13_reeds_6 ⟨Nat.le_of_ble_eq_true rfl, Nat.le_of_ble_eq_true rfl⟩ (fun r w6 H locs hM hw => ?_)
  obtain ⟨hr, hw⟩ := hw
  rw [hr]
  rw [hw] at hM
  refine lv_iload_n hx hb dX13_reeds_9 rfl (lv_at hl 1 rfl) ?_
  refine lv_icmp_ne (tgt := 17) hx hb dX13_reeds_10 (by decide) (fun hcd => ?_) (fun hcd => ?_)
  · rw [if_neg hcd] at hf
    refine lv_aload_n hx hb dX13_reeds_17 rfl (lv_at hl 0 rfl) ?_
    refine lv_iload_n hx hb dX13_reeds_18 rfl (lv_at hl 1 rfl) ?_
    obtain ⟨q19, hq19, hf⟩ := mm_bd hf
    refine mm_Si (rest := [.ref b, .int q2]) hC hM (c_X13_image l hq19) q7_129 q1_12 ykX13_image q7_127 q7_128 ⟨rfl, rfl⟩ ⟨Nat.le_of_ble_eq_true rfl, Nat.le_of_ble_eq_true rfl⟩ rfl hl.1 rfl (Nat.le_of_ble_eq_true rfl) dX13_reeds_19 ⟨Nat.le_of_ble_eq_true rfl, Nat.le_of_ble_eq_true rfl⟩ (fun r w19 H locs hM hw => ?_)
    obtain ⟨hr, hw⟩ := hw
    rw [hr]
    rw [hw] at hM
    obtain ⟨q22, hq22, hf⟩ := mm_bd hf
    refine mm_Vi (rest := [.int q2]) hC hM (c_X13_stands l hq22 hp_this) q7_169 q1_12 ykX13_stands q7_166 q7_168 qp_0c8d64ed hp_this.1 rfl ⟨rfl, rfl⟩ ⟨Nat.le_of_ble_eq_true rfl, Nat.le_of_ble_eq_true rfl⟩ rfl hl.1 rfl (Nat.le_of_ble_eq_true rfl) dX13_reeds_22 ⟨Nat.le_of_ble_eq_true rfl, Nat.le_of_ble_eq_true rfl⟩ (fun r w22 H locs hM hw => ?_)
    obtain ⟨hr, hw⟩ := hw
    rw [hr]
    rw [hw] at hM
    refine lv_iadd hx hb dX13_reeds_25 ?_
    cases hf
    exact hret hM dX13_reeds_26 rfl ⟨rfl, rfl⟩
  · rw [if_pos hcd] at hf
    refine lv_iconst (v := 0) hx hb dX13_reeds_13 (by decide) ?_
    refine lv_goto (tgt := 25) hx hb dX13_reeds_14 (by decide) ?_
    refine lv_iadd hx hb dX13_reeds_25 ?_
    cases hf
    exact hret hM dX13_reeds_26 rfl ⟨rfl, rfl⟩
def f_X13_isFoggy (v : Nat → Int32) (x1 : Int32) : Option (Int32) := if (v 1) = 1 then if (x1 - x1 / 9 * 9) < 4 then some 1 else if (v 1) = 2 then if (x1 - x1 / 9 * 9) ≤ 4 then some 0 else some 1 else some 0 else if (v 1) = 2 then if (x1 - x1 / 9 * 9) ≤ 4 then some 0 else some 1 else some 0
set_option maxHeartbeats 4000000 in
set_option maxRecDepth 100000 in
theorem c_X13_isFoggy (l : Launch) {G : mm_G} {w : va_W} {sz : Nat} {b : Nat} {thrown : Int32} {changes : Int32} {errorAt : Int32} {failedAt : Int32} {isSaved : Int32} {v : Nat → Int32} {before : Nat → Int32} {saved : Nat → Int32} {past : Nat → Int32} {far : Nat → Int32} {scratch : Nat → Int32} {best : Nat → Int32} {thenX : Int32} {thenY : Int32} {thenMet : Int32} {text : Nat → Int32} {line : Nat → Int32} {isLeft : Nat → Int32} {words : Nat → Int32} {wordAt : Nat → Int32} {textN : Int32} {hereP : Int32} {endP : Int32} {lineN : Int32} {isWrong : Int32} {isDoing : Int32} {x1 : Int32} {X : Int32} (hf : f_X13_isFoggy v x1 = some X) (hp_this : At13 G w b thrown changes errorAt failedAt isSaved v before saved past far scratch best thenX thenY thenMet text line isLeft words wordAt textN hereP endP lineN isWrong isDoing) : Met l yX13_isFoggy (Cond.code yX13_isFoggy cX13_isFoggy 2 (some .boolean) :: gAll) ({ frames := 0, cells := 0, slots := 0, locals := 0 }) (va_Pc [.ref b, .int x1] (mm_Pre G w sz)) (mm_Qi G w sz (fun r w' => r = X ∧ w' = w)) 0 0 (va_A w sz) := by
  refine mm_headI [.ref b, .int x1] (by decide +kernel) rfl (Nat.le_of_ble_eq_true rfl) ?_
  intro p e s m args below meth c A Q hsz hC hM hret ls hl
  have hx := hC.1.1
  have hb := hC.1.2.1
  have hl : lv_has ls 2 [(0, .ref b), (1, .int x1)] := hl
  rw [f_X13_isFoggy] at hf
  refine lv_aload_n hx hb dX13_isFoggy_0 rfl (lv_at hl 0 rfl) ?_
  refine mm_get hC hM (k := 5) hp_this.1 rfl inAX13 (by decide) q7_10 rfl dX13_isFoggy_1 ?_
  refine lv_iconst (v := 1) hx hb dX13_isFoggy_4 (by decide) ?_
  refine mm_ialdN (N := 1) hC hM (hp_this.2.1) (by decide) (by unfold vp_in; decide) dX13_isFoggy_5 ?_
  refine lv_iconst (v := 1) hx hb dX13_isFoggy_6 (by decide) ?_
  refine lv_icmp_ne (tgt := 18) hx hb dX13_isFoggy_7 (by decide) (fun hcd => ?_) (fun hcd => ?_)
  · rw [if_neg hcd] at hf
    refine lv_aload_n hx hb dX13_isFoggy_18 rfl (lv_at hl 0 rfl) ?_
    refine mm_get hC hM (k := 5) hp_this.1 rfl inAX13 (by decide) q7_10 rfl dX13_isFoggy_19 ?_
    refine lv_iconst (v := 1) hx hb dX13_isFoggy_22 (by decide) ?_
    refine mm_ialdN (N := 1) hC hM (hp_this.2.1) (by decide) (by unfold vp_in; decide) dX13_isFoggy_23 ?_
    refine lv_iconst (v := 2) hx hb dX13_isFoggy_24 (by decide) ?_
    refine lv_icmp_ne (tgt := 40) hx hb dX13_isFoggy_25 (by decide) (fun hcd => ?_) (fun hcd => ?_)
    · rw [if_neg hcd] at hf
      refine lv_iconst (v := 0) hx hb dX13_isFoggy_40 (by decide) ?_
      cases hf
      exact hret hM dX13_isFoggy_41 rfl ⟨rfl, rfl⟩
    · rw [if_pos hcd] at hf
      refine lv_iload_n hx hb dX13_isFoggy_28 rfl (lv_at hl 1 rfl) ?_
      refine lv_bipush (v := 9) hx hb dX13_isFoggy_29 (by decide) ?_
      refine lv_irem hx hb dX13_isFoggy_31 (by decide) ?_
      refine lv_iconst (v := 4) hx hb dX13_isFoggy_32 (by decide) ?_
      refine lv_icmp_le (tgt := 40) hx hb dX13_isFoggy_33 (by decide) (fun hcd => ?_) (fun hcd => ?_)
      · rw [if_pos hcd] at hf
        refine lv_iconst (v := 0) hx hb dX13_isFoggy_40 (by decide) ?_
        cases hf
        exact hret hM dX13_isFoggy_41 rfl ⟨rfl, rfl⟩
      · rw [if_neg hcd] at hf
        refine lv_iconst (v := 1) hx hb dX13_isFoggy_36 (by decide) ?_
        refine lv_goto (tgt := 41) hx hb dX13_isFoggy_37 (by decide) ?_
        cases hf
        exact hret hM dX13_isFoggy_41 rfl ⟨rfl, rfl⟩
  · rw [if_pos hcd] at hf
    refine lv_iload_n hx hb dX13_isFoggy_10 rfl (lv_at hl 1 rfl) ?_
    refine lv_bipush (v := 9) hx hb dX13_isFoggy_11 (by decide) ?_
    refine lv_irem hx hb dX13_isFoggy_13 (by decide) ?_
    refine lv_iconst (v := 4) hx hb dX13_isFoggy_14 (by decide) ?_
    refine lv_icmp_lt (tgt := 36) hx hb dX13_isFoggy_15 (by decide) (fun hcd => ?_) (fun hcd => ?_)
    · rw [if_pos hcd] at hf
      refine lv_iconst (v := 1) hx hb dX13_isFoggy_36 (by decide) ?_
      refine lv_goto (tgt := 41) hx hb dX13_isFoggy_37 (by decide) ?_
      cases hf
      exact hret hM dX13_isFoggy_41 rfl ⟨rfl, rfl⟩
    · rw [if_neg hcd] at hf
      refine lv_aload_n hx hb dX13_isFoggy_18 rfl (lv_at hl 0 rfl) ?_
      refine mm_get hC hM (k := 5) hp_this.1 rfl inAX13 (by decide) q7_10 rfl dX13_isFoggy_19 ?_
      refine lv_iconst (v := 1) hx hb dX13_isFoggy_22 (by decide) ?_
      refine mm_ialdN (N := 1) hC hM (hp_this.2.1) (by decide) (by unfold vp_in; decide) dX13_isFoggy_23 ?_
      refine lv_iconst (v := 2) hx hb dX13_isFoggy_24 (by decide) ?_
      refine lv_icmp_ne (tgt := 40) hx hb dX13_isFoggy_25 (by decide) (fun hcd => ?_) (fun hcd => ?_)
      · rw [if_neg hcd] at hf
        refine lv_iconst (v := 0) hx hb dX13_isFoggy_40 (by decide) ?_
        cases hf
        exact hret hM dX13_isFoggy_41 rfl ⟨rfl, rfl⟩
      · rw [if_pos hcd] at hf
        refine lv_iload_n hx hb dX13_isFoggy_28 rfl (lv_at hl 1 rfl) ?_
        refine lv_bipush (v := 9) hx hb dX13_isFoggy_29 (by decide) ?_
        refine lv_irem hx hb dX13_isFoggy_31 (by decide) ?_
        refine lv_iconst (v := 4) hx hb dX13_isFoggy_32 (by decide) ?_
        refine lv_icmp_le (tgt := 40) hx hb dX13_isFoggy_33 (by decide) (fun hcd => ?_) (fun hcd => ?_)
        · rw [if_pos hcd] at hf
          refine lv_iconst (v := 0) hx hb dX13_isFoggy_40 (by decide) ?_
          cases hf
          exact hret hM dX13_isFoggy_41 rfl ⟨rfl, rfl⟩
        · rw [if_neg hcd] at hf
          refine lv_iconst (v := 1) hx hb dX13_isFoggy_36 (by decide) ?_
          refine lv_goto (tgt := 41) hx hb dX13_isFoggy_37 (by decide) ?_
          cases hf
          exact hret hM dX13_isFoggy_41 rfl ⟨rfl, rfl⟩
def f_X13_costs (v : Nat → Int32) (x1 : Int32) (x2 : Int32) : Option (Int32) := if x2 = 0 then some 1 else if x2 = 1 then (f_X13_isFoggy v x1).bind fun q15 => if q15 = 0 then some 1 else some 2 else (f_X13_reeds v x1).bind fun q31 => some q31
set_option maxHeartbeats 4000000 in
set_option maxRecDepth 100000 in
theorem c_X13_costs (l : Launch) {G : mm_G} {w : va_W} {sz : Nat} {b : Nat} {thrown : Int32} {changes : Int32} {errorAt : Int32} {failedAt : Int32} {isSaved : Int32} {v : Nat → Int32} {before : Nat → Int32} {saved : Nat → Int32} {past : Nat → Int32} {far : Nat → Int32} {scratch : Nat → Int32} {best : Nat → Int32} {thenX : Int32} {thenY : Int32} {thenMet : Int32} {text : Nat → Int32} {line : Nat → Int32} {isLeft : Nat → Int32} {words : Nat → Int32} {wordAt : Nat → Int32} {textN : Int32} {hereP : Int32} {endP : Int32} {lineN : Int32} {isWrong : Int32} {isDoing : Int32} {x1 : Int32} {x2 : Int32} {X : Int32} (hf : f_X13_costs v x1 x2 = some X) (hp_this : At13 G w b thrown changes errorAt failedAt isSaved v before saved past far scratch best thenX thenY thenMet text line isLeft words wordAt textN hereP endP lineN isWrong isDoing) : Met l yX13_costs (Cond.code yX13_costs cX13_costs 3 (some .int) :: gAll) ({ frames := 2, cells := 0, slots := 0, locals := 42 }) (va_Pc [.ref b, .int x1, .int x2] (mm_Pre G w sz)) (mm_Qi G w sz (fun r w' => r = X ∧ w' = w)) 0 0 (va_A w sz) := by
  refine mm_headI [.ref b, .int x1, .int x2] (by decide +kernel) rfl (Nat.le_of_ble_eq_true rfl) ?_
  intro p e s m args below meth c A Q hsz hC hM hret ls hl
  have hx := hC.1.1
  have hb := hC.1.2.1
  have hl : lv_has ls 3 [(0, .ref b), (1, .int x1), (2, .int x2)] := hl
  rw [f_X13_costs] at hf
  refine lv_iload_n hx hb dX13_costs_0 rfl (lv_at hl 2 rfl) ?_
  refine lv_if_ne (tgt := 8) hx hb dX13_costs_1 (by decide) (fun hcd => ?_) (fun hcd => ?_)
  · rw [if_neg hcd] at hf
    refine lv_iload_n hx hb dX13_costs_8 rfl (lv_at hl 2 rfl) ?_
    refine lv_iconst (v := 1) hx hb dX13_costs_9 (by decide) ?_
    refine lv_icmp_ne (tgt := 29) hx hb dX13_costs_10 (by decide) (fun hcd => ?_) (fun hcd => ?_)
    · rw [if_neg hcd] at hf
      refine lv_aload_n hx hb dX13_costs_29 rfl (lv_at hl 0 rfl) ?_
      refine lv_iload_n hx hb dX13_costs_30 rfl (lv_at hl 1 rfl) ?_
      obtain ⟨q31, hq31, hf⟩ := mm_bd hf
      refine mm_Vi (rest := []) hC hM (c_X13_reeds l hq31 hp_this) q8_138 q1_12 ykX13_reeds q8_135 q8_137 qp_ddb682ef hp_this.1 rfl ⟨rfl, rfl⟩ ⟨Nat.le_of_ble_eq_true rfl, Nat.le_of_ble_eq_true rfl⟩ rfl hl.1 rfl (Nat.le_of_ble_eq_true rfl) dX13_costs_31 ⟨Nat.le_of_ble_eq_true rfl, Nat.le_of_ble_eq_true rfl⟩ (fun r w31 H locs hM hw => ?_)
      obtain ⟨hr, hw⟩ := hw
      rw [hr]
      rw [hw] at hM
      cases hf
      exact hret hM dX13_costs_34 rfl ⟨rfl, rfl⟩
    · rw [if_pos hcd] at hf
      refine lv_aload_n hx hb dX13_costs_13 rfl (lv_at hl 0 rfl) ?_
      refine lv_iload_n hx hb dX13_costs_14 rfl (lv_at hl 1 rfl) ?_
      obtain ⟨q15, hq15, hf⟩ := mm_bd hf
      refine mm_Vi (rest := []) hC hM (c_X13_isFoggy l hq15 hp_this) q8_134 q1_12 ykX13_isFoggy q8_131 q8_133 qp_015d17cd hp_this.1 rfl ⟨rfl, rfl⟩ ⟨Nat.le_of_ble_eq_true rfl, Nat.le_of_ble_eq_true rfl⟩ rfl hl.1 rfl (Nat.le_of_ble_eq_true rfl) dX13_costs_15 ⟨Nat.le_of_ble_eq_true rfl, Nat.le_of_ble_eq_true rfl⟩ (fun r w15 H locs hM hw => ?_)
      obtain ⟨hr, hw⟩ := hw
      rw [hr]
      rw [hw] at hM
      refine lv_if_eq (tgt := 25) hx hb dX13_costs_18 (by decide) (fun hcd => ?_) (fun hcd => ?_)
      · rw [if_pos hcd] at hf
        refine lv_iconst (v := 1) hx hb dX13_costs_25 (by decide) ?_
        refine lv_goto (tgt := 34) hx hb dX13_costs_26 (by decide) ?_
        cases hf
        exact hret hM dX13_costs_34 rfl ⟨rfl, rfl⟩
      · rw [if_neg hcd] at hf
        refine lv_iconst (v := 2) hx hb dX13_costs_21 (by decide) ?_
        refine lv_goto (tgt := 34) hx hb dX13_costs_22 (by decide) ?_
        cases hf
        exact hret hM dX13_costs_34 rfl ⟨rfl, rfl⟩
  · rw [if_pos hcd] at hf
    refine lv_iconst (v := 1) hx hb dX13_costs_4 (by decide) ?_
    refine lv_goto (tgt := 34) hx hb dX13_costs_5 (by decide) ?_
    cases hf
    exact hret hM dX13_costs_34 rfl ⟨rfl, rfl⟩
def f_X13_reaches_L2 (x1 : Int32) : Nat → (Int32) → (Nat → Int32) → Option (Nat → Int32)
  | 0, _, _ => none
  | n + 1, x3, far => if 81 ≤ x3 then some far else if x3 = x1 then mm_g (mm_ck x3 81) (f_X13_reaches_L2 x1 n (x3 + 1) (upd far x3.toNatClampNeg 0)) else mm_g (mm_ck x3 81) (f_X13_reaches_L2 x1 n (x3 + 1) (upd far x3.toNatClampNeg 100000))
def f_X13_reaches_B84 (far : Nat → Int32) (x4 : Int32) (x5 : Int32) (x7 : Int32) : Option (Int32) := if x5 ≤ 0 then some x7 else mm_g (mm_ck (x4 - 1) 81) (if x7 ≤ (far (x4 - 1).toNatClampNeg) then some x7 else mm_g (mm_ck (x4 - 1) 81) (some (far (x4 - 1).toNatClampNeg)))
def f_X13_reaches_B114 (far : Nat → Int32) (x4 : Int32) (x5 : Int32) (x7 : Int32) : Option (Int32) := if 8 ≤ x5 then some x7 else mm_g (mm_ck (x4 + 1) 81) (if x7 ≤ (far (x4 + 1).toNatClampNeg) then some x7 else mm_g (mm_ck (x4 + 1) 81) (some (far (x4 + 1).toNatClampNeg)))
def f_X13_reaches_B146 (far : Nat → Int32) (x4 : Int32) (x6 : Int32) (x7 : Int32) : Option (Int32) := if x6 ≤ 0 then some x7 else mm_g (mm_ck (x4 - 9) 81) (if x7 ≤ (far (x4 - 9).toNatClampNeg) then some x7 else mm_g (mm_ck (x4 - 9) 81) (some (far (x4 - 9).toNatClampNeg)))
def f_X13_reaches_B178 (far : Nat → Int32) (x4 : Int32) (x6 : Int32) (x7 : Int32) : Option (Int32) := if 8 ≤ x6 then some x7 else mm_g (mm_ck (x4 + 9) 81) (if x7 ≤ (far (x4 + 9).toNatClampNeg) then some x7 else mm_g (mm_ck (x4 + 9) 81) (some (far (x4 + 9).toNatClampNeg)))
def f_X13_reaches_L42 (v : Nat → Int32) (x2 : Int32) : Nat → (Int32) → (Int32) → (Nat → Int32) → Option (Int32 × (Nat → Int32))
  | 0, _, _, _ => none
  | n + 1, x3, x4, far => if 81 ≤ x4 then some (x3, far) else if 2 ≤ x2 then (f_X13_reaches_B84 far x4 (x4 - x4 / 9 * 9) 100000).bind fun q84 => (f_X13_reaches_B114 far x4 (x4 - x4 / 9 * 9) q84).bind fun q114 => (f_X13_reaches_B146 far x4 (x4 / 9) q114).bind fun q146 => (f_X13_reaches_B178 far x4 (x4 / 9) q146).bind fun q178 => if q178 = 100000 then f_X13_reaches_L42 v x2 n x3 (x4 + 1) far else (f_X13_costs v x4 x2).bind fun q225 => mm_g (mm_ck x4 81) (if (q178 + q225) < (far x4.toNatClampNeg) then (f_X13_costs v x4 x2).bind fun q254 => mm_g (mm_ck x4 81) (f_X13_reaches_L42 v x2 n 1 (x4 + 1) (upd far x4.toNatClampNeg (q178 + q254))) else f_X13_reaches_L42 v x2 n x3 (x4 + 1) far) else (f_X13_isFree v x4).bind fun q57 => if q57 = 0 then f_X13_reaches_L42 v x2 n x3 (x4 + 1) far else (f_X13_reaches_B84 far x4 (x4 - x4 / 9 * 9) 100000).bind fun q84 => (f_X13_reaches_B114 far x4 (x4 - x4 / 9 * 9) q84).bind fun q114 => (f_X13_reaches_B146 far x4 (x4 / 9) q114).bind fun q146 => (f_X13_reaches_B178 far x4 (x4 / 9) q146).bind fun q178 => if q178 = 100000 then f_X13_reaches_L42 v x2 n x3 (x4 + 1) far else (f_X13_costs v x4 x2).bind fun q225 => mm_g (mm_ck x4 81) (if (q178 + q225) < (far x4.toNatClampNeg) then (f_X13_costs v x4 x2).bind fun q254 => mm_g (mm_ck x4 81) (f_X13_reaches_L42 v x2 n 1 (x4 + 1) (upd far x4.toNatClampNeg (q178 + q254))) else f_X13_reaches_L42 v x2 n x3 (x4 + 1) far)
def f_X13_reaches_L33 (K : Nat) (v : Nat → Int32) (x2 : Int32) : Nat → (Int32) → (Nat → Int32) → Option (Nat → Int32)
  | 0, _, _ => none
  | n + 1, x3, far => if x3 = 0 then some far else (f_X13_reaches_L42 v x2 K 0 0 far).bind fun q42 => f_X13_reaches_L33 K v x2 n q42.1 q42.2
def f_X13_reaches (K : Nat) (v : Nat → Int32) (far : Nat → Int32) (x1 : Int32) (x2 : Int32) : Option (Nat → Int32) := (f_X13_reaches_L2 x1 K 0 far).bind fun q2 => (f_X13_reaches_L33 K v x2 K 1 q2).bind fun q33 => some q33
set_option maxHeartbeats 4000000 in
set_option maxRecDepth 100000 in
theorem c_X13_reaches (l : Launch) {G : mm_G} {K : Nat} {w : va_W} {sz : Nat} {b : Nat} {thrown : Int32} {changes : Int32} {errorAt : Int32} {failedAt : Int32} {isSaved : Int32} {v : Nat → Int32} {before : Nat → Int32} {saved : Nat → Int32} {past : Nat → Int32} {far : Nat → Int32} {scratch : Nat → Int32} {best : Nat → Int32} {thenX : Int32} {thenY : Int32} {thenMet : Int32} {text : Nat → Int32} {line : Nat → Int32} {isLeft : Nat → Int32} {words : Nat → Int32} {wordAt : Nat → Int32} {textN : Int32} {hereP : Int32} {endP : Int32} {lineN : Int32} {isWrong : Int32} {isDoing : Int32} {x1 : Int32} {x2 : Int32} {X : Nat → Int32} (hf : f_X13_reaches K v far x1 x2 = some X) (hp_this : At13 G w b thrown changes errorAt failedAt isSaved v before saved past far scratch best thenX thenY thenMet text line isLeft words wordAt textN hereP endP lineN isWrong isDoing) : Met l yX13_reaches (Cond.code yX13_reaches cX13_reaches 8 none :: gAll) ({ frames := 3, cells := 0, slots := 0, locals := 64 }) (va_Pc [.ref b, .int x1, .int x2] (mm_Pre G w sz)) (mm_Qv G w sz (fun w' => At13 G w' b thrown changes errorAt failedAt isSaved v before saved past X scratch best thenX thenY thenMet text line isLeft words wordAt textN hereP endP lineN isWrong isDoing ∧ mm_fr w w' b (b + 13))) 0 0 (va_A w sz) := by
  refine mm_headV [.ref b, .int x1, .int x2] (by decide +kernel) rfl (Nat.le_of_ble_eq_true rfl) ?_
  intro p e s m args below meth c A Q hsz hC hM hret hnm ls hl
  have hx := hC.1.1
  have hb := hC.1.2.1
  have hl : lv_has ls 8 [(0, .ref b), (1, .int x1), (2, .int x2)] := hl
  have hF : mm_fr w w b (b + 13) := mm_fr.rf
  rw [f_X13_reaches] at hf
  refine lv_iconst (v := 0) hx hb dX13_reaches_0 (by decide) ?_
  refine lv_istore_n (lv' := [(3, .int 0), (0, .ref b), (1, .int x1), (2, .int x2)]) hx hb dX13_reaches_1 rfl hl (by decide) rfl (fun ls hl => ?_)
  have L2 : ∀ (n : Nat) (L2_x3 : Int32) (L2_far : Nat → Int32) (X : Nat → Int32), f_X13_reaches_L2 x1 n L2_x3 L2_far = some X → ∀ (L2_w : va_W) (H : Heap) (locs : List Loc), mm_S G A s.heap L2_w H locs → At13 G L2_w b thrown changes errorAt failedAt isSaved v before saved past L2_far scratch best thenX thenY thenMet text line isLeft words wordAt textN hereP endP lineN isWrong isDoing → mm_fr w L2_w b (b + 13) → ∀ (ls : Array Slot), lv_has ls 8 [(0, .ref b), (1, .int x1), (2, .int x2), (3, .int L2_x3)] → (∀ (w9 : va_W) (H : Heap) (locs : List Loc), mm_S G A s.heap w9 H locs → At13 G w9 b thrown changes errorAt failedAt isSaved v before saved past X scratch best thenX thenY thenMet text line isLeft words wordAt textN hereP endP lineN isWrong isDoing → mm_fr w w9 b (b + 13) → ∀ (ls : Array Slot), lv_has ls 8 [(0, .ref b), (2, .int x2)] → W p l e ({ frames := 3, cells := 0, slots := 0, locals := 64 } : Room) s m args below meth c H locs 0 0 Q (F0 m 31 ls [])) → W p l e ({ frames := 3, cells := 0, slots := 0, locals := 64 } : Room) s m args below meth c H locs 0 0 Q (F0 m 2 ls []) := by
    intro n
    induction n with
    | zero => intro L2_x3 L2_far X hf; cases hf
    | succ n ih =>
      intro L2_x3 L2_far X hf L2_w H locs hM hp_this hF ls hl hk
      rw [f_X13_reaches_L2] at hf
      refine lv_iload_n hx hb dX13_reaches_2 rfl (lv_at hl 3 rfl) ?_
      refine lv_bipush (v := 81) hx hb dX13_reaches_3 (by decide) ?_
      refine lv_icmp_ge (tgt := 31) hx hb dX13_reaches_5 (by decide) (fun hcd => ?_) (fun hcd => ?_)
      · rw [if_pos hcd] at hf
        cases hf
        exact hk _ _ _ hM hp_this hF _ (lv_sub hl [0, 2] rfl)
      · rw [if_neg hcd] at hf
        refine lv_aload_n hx hb dX13_reaches_8 rfl (lv_at hl 0 rfl) ?_
        refine mm_get hC hM (k := 9) hp_this.1 rfl inAX13 (by decide) q7_14 rfl dX13_reaches_9 ?_
        refine lv_iload_n hx hb dX13_reaches_12 rfl (lv_at hl 3 rfl) ?_
        refine lv_iload_n hx hb dX13_reaches_13 rfl (lv_at hl 3 rfl) ?_
        refine lv_iload_n hx hb dX13_reaches_14 rfl (lv_at hl 1 rfl) ?_
        refine lv_icmp_ne (tgt := 22) hx hb dX13_reaches_15 (by decide) (fun hcd => ?_) (fun hcd => ?_)
        · rw [if_neg hcd] at hf
          refine lv_ldc hx hb hC.1.2.2.2.1 (hC.1.2.2.2.2 _ q8_126) dX13_reaches_22 ?_
          obtain ⟨hg24, hf⟩ := mm_gd hf
          refine mm_iast hC hM (hp_this.2.2.2.2.2.1) hg24 dX13_reaches_24 (fun w24 H locs hM hm => ?_)
          have hp_this : At13 G w24 b thrown changes errorAt failedAt isSaved v before saved past (upd L2_far L2_x3.toNatClampNeg 100000) scratch best thenX thenY thenMet text line isLeft words wordAt textN hereP endP lineN isWrong isDoing := ⟨hm.keep (hp_this.1) (by omega), hm.keep (hp_this.2.1) (by omega), hm.keep (hp_this.2.2.1) (by omega), hm.keep (hp_this.2.2.2.1) (by omega), hm.keep (hp_this.2.2.2.2.1) (by omega), hm.1, hm.keep (hp_this.2.2.2.2.2.2.1) (by omega), hm.keep (hp_this.2.2.2.2.2.2.2.1) (by omega), hm.keep (hp_this.2.2.2.2.2.2.2.2.1) (by omega), hm.keep (hp_this.2.2.2.2.2.2.2.2.2.1) (by omega), hm.keep (hp_this.2.2.2.2.2.2.2.2.2.2.1) (by omega), hm.keep (hp_this.2.2.2.2.2.2.2.2.2.2.2.1) (by omega), hm.keep (hp_this.2.2.2.2.2.2.2.2.2.2.2.2) (by omega)⟩
          have hF := hF.tr (hm.fr (by omega) (by omega))
          refine lv_iinc (v := (L2_x3 + 1)) (lv' := [(3, .int (L2_x3 + 1)), (0, .ref b), (1, .int x1), (2, .int x2)]) hx hb dX13_reaches_25 hl (k := 3) rfl rfl (by decide) rfl (fun ls hl => ?_)
          refine lv_goto (tgt := 2) hx hb dX13_reaches_28 (by decide) ?_
          exact ih _ _ _ hf _ _ _ hM hp_this hF _ (lv_sub hl [1, 2, 3, 0] rfl) hk
        · rw [if_pos hcd] at hf
          refine lv_iconst (v := 0) hx hb dX13_reaches_18 (by decide) ?_
          refine lv_goto (tgt := 24) hx hb dX13_reaches_19 (by decide) ?_
          obtain ⟨hg24, hf⟩ := mm_gd hf
          refine mm_iast hC hM (hp_this.2.2.2.2.2.1) hg24 dX13_reaches_24 (fun w24 H locs hM hm => ?_)
          have hp_this : At13 G w24 b thrown changes errorAt failedAt isSaved v before saved past (upd L2_far L2_x3.toNatClampNeg 0) scratch best thenX thenY thenMet text line isLeft words wordAt textN hereP endP lineN isWrong isDoing := ⟨hm.keep (hp_this.1) (by omega), hm.keep (hp_this.2.1) (by omega), hm.keep (hp_this.2.2.1) (by omega), hm.keep (hp_this.2.2.2.1) (by omega), hm.keep (hp_this.2.2.2.2.1) (by omega), hm.1, hm.keep (hp_this.2.2.2.2.2.2.1) (by omega), hm.keep (hp_this.2.2.2.2.2.2.2.1) (by omega), hm.keep (hp_this.2.2.2.2.2.2.2.2.1) (by omega), hm.keep (hp_this.2.2.2.2.2.2.2.2.2.1) (by omega), hm.keep (hp_this.2.2.2.2.2.2.2.2.2.2.1) (by omega), hm.keep (hp_this.2.2.2.2.2.2.2.2.2.2.2.1) (by omega), hm.keep (hp_this.2.2.2.2.2.2.2.2.2.2.2.2) (by omega)⟩
          have hF := hF.tr (hm.fr (by omega) (by omega))
          refine lv_iinc (v := (L2_x3 + 1)) (lv' := [(3, .int (L2_x3 + 1)), (0, .ref b), (1, .int x1), (2, .int x2)]) hx hb dX13_reaches_25 hl (k := 3) rfl rfl (by decide) rfl (fun ls hl => ?_)
          refine lv_goto (tgt := 2) hx hb dX13_reaches_28 (by decide) ?_
          exact ih _ _ _ hf _ _ _ hM hp_this hF _ (lv_sub hl [1, 2, 3, 0] rfl) hk
  obtain ⟨q2, hq2, hf⟩ := mm_bd hf
  refine L2 K _ _ _ hq2 _ _ _ hM hp_this hF _ (lv_sub hl [1, 2, 3, 0] rfl) (fun w2 H locs hM hp_this hF ls hl => ?_)
  refine lv_iconst (v := 1) hx hb dX13_reaches_31 (by decide) ?_
  refine lv_istore_n (lv' := [(3, .int 1), (0, .ref b), (2, .int x2)]) hx hb dX13_reaches_32 rfl hl (by decide) rfl (fun ls hl => ?_)
  have L33 : ∀ (n : Nat) (L33_x3 : Int32) (L33_far : Nat → Int32) (X : Nat → Int32), f_X13_reaches_L33 K v x2 n L33_x3 L33_far = some X → ∀ (L33_w : va_W) (H : Heap) (locs : List Loc), mm_S G A s.heap L33_w H locs → At13 G L33_w b thrown changes errorAt failedAt isSaved v before saved past L33_far scratch best thenX thenY thenMet text line isLeft words wordAt textN hereP endP lineN isWrong isDoing → mm_fr w L33_w b (b + 13) → ∀ (ls : Array Slot), lv_has ls 8 [(0, .ref b), (2, .int x2), (3, .int L33_x3)] → (∀ (w9 : va_W) (H : Heap) (locs : List Loc), mm_S G A s.heap w9 H locs → At13 G w9 b thrown changes errorAt failedAt isSaved v before saved past X scratch best thenX thenY thenMet text line isLeft words wordAt textN hereP endP lineN isWrong isDoing → mm_fr w w9 b (b + 13) → ∀ (ls : Array Slot), lv_has ls 8 [] → W p l e ({ frames := 3, cells := 0, slots := 0, locals := 64 } : Room) s m args below meth c H locs 0 0 Q (F0 m 270 ls [])) → W p l e ({ frames := 3, cells := 0, slots := 0, locals := 64 } : Room) s m args below meth c H locs 0 0 Q (F0 m 33 ls []) := by
    intro n
    induction n with
    | zero => intro L33_x3 L33_far X hf; cases hf
    | succ n ih =>
      intro L33_x3 L33_far X hf L33_w H locs hM hp_this hF ls hl hk
      rw [f_X13_reaches_L33] at hf
      refine lv_iload_n hx hb dX13_reaches_33 rfl (lv_at hl 2 rfl) ?_
      refine lv_if_eq (tgt := 270) hx hb dX13_reaches_34 (by decide) (fun hcd => ?_) (fun hcd => ?_)
      · rw [if_pos hcd] at hf
        cases hf
        exact hk _ _ _ hM hp_this hF _ (lv_sub hl [] rfl)
      · rw [if_neg hcd] at hf
        refine lv_iconst (v := 0) hx hb dX13_reaches_37 (by decide) ?_
        refine lv_istore_n (lv' := [(3, .int 0), (0, .ref b), (2, .int x2)]) hx hb dX13_reaches_38 rfl hl (by decide) rfl (fun ls hl => ?_)
        refine lv_iconst (v := 0) hx hb dX13_reaches_39 (by decide) ?_
        refine lv_istore (lv' := [(4, .int 0), (3, .int 0), (0, .ref b), (2, .int x2)]) hx hb dX13_reaches_40 hl (by decide) rfl (fun ls hl => ?_)
        have L42 : ∀ (n : Nat) (L42_x3 : Int32) (L42_x4 : Int32) (L42_far : Nat → Int32) (X : Int32 × (Nat → Int32)), f_X13_reaches_L42 v x2 n L42_x3 L42_x4 L42_far = some X → ∀ (L42_w : va_W) (H : Heap) (locs : List Loc), mm_S G A s.heap L42_w H locs → At13 G L42_w b thrown changes errorAt failedAt isSaved v before saved past L42_far scratch best thenX thenY thenMet text line isLeft words wordAt textN hereP endP lineN isWrong isDoing → mm_fr w L42_w b (b + 13) → ∀ (ls : Array Slot), lv_has ls 8 [(0, .ref b), (2, .int x2), (3, .int L42_x3), (4, .int L42_x4)] → (∀ (w9 : va_W) (H : Heap) (locs : List Loc), mm_S G A s.heap w9 H locs → At13 G w9 b thrown changes errorAt failedAt isSaved v before saved past X.2 scratch best thenX thenY thenMet text line isLeft words wordAt textN hereP endP lineN isWrong isDoing → mm_fr w w9 b (b + 13) → ∀ (ls : Array Slot), lv_has ls 8 [(0, .ref b), (2, .int x2), (3, .int X.1)] → W p l e ({ frames := 3, cells := 0, slots := 0, locals := 64 } : Room) s m args below meth c H locs 0 0 Q (F0 m 267 ls [])) → W p l e ({ frames := 3, cells := 0, slots := 0, locals := 64 } : Room) s m args below meth c H locs 0 0 Q (F0 m 42 ls []) := by
          intro n
          induction n with
          | zero => intro L42_x3 L42_x4 L42_far X hf; cases hf
          | succ n ih =>
            intro L42_x3 L42_x4 L42_far X hf L42_w H locs hM hp_this hF ls hl hk
            rw [f_X13_reaches_L42] at hf
            refine lv_iload hx hb dX13_reaches_42 (lv_at hl 3 rfl) ?_
            refine lv_bipush (v := 81) hx hb dX13_reaches_44 (by decide) ?_
            refine lv_icmp_ge (tgt := 267) hx hb dX13_reaches_46 (by decide) (fun hcd => ?_) (fun hcd => ?_)
            · rw [if_pos hcd] at hf
              cases hf
              exact hk _ _ _ hM hp_this hF _ (lv_sub hl [0, 1, 2] rfl)
            · rw [if_neg hcd] at hf
              refine lv_iload_n hx hb dX13_reaches_49 rfl (lv_at hl 1 rfl) ?_
              refine lv_iconst (v := 2) hx hb dX13_reaches_50 (by decide) ?_
              refine lv_icmp_ge (tgt := 66) hx hb dX13_reaches_51 (by decide) (fun hcd => ?_) (fun hcd => ?_)
              · rw [if_pos hcd] at hf
                refine lv_iload hx hb dX13_reaches_66 (lv_at hl 3 rfl) ?_
                refine lv_bipush (v := 9) hx hb dX13_reaches_68 (by decide) ?_
                refine lv_irem hx hb dX13_reaches_70 (by decide) ?_
                refine lv_istore (lv' := [(5, .int (L42_x4 - L42_x4 / 9 * 9)), (0, .ref b), (2, .int x2), (3, .int L42_x3), (4, .int L42_x4)]) hx hb dX13_reaches_71 hl (by decide) rfl (fun ls hl => ?_)
                refine lv_iload hx hb dX13_reaches_73 (lv_at hl 4 rfl) ?_
                refine lv_bipush (v := 9) hx hb dX13_reaches_75 (by decide) ?_
                refine lv_idiv hx hb dX13_reaches_77 (by decide) ?_
                refine lv_istore (lv' := [(6, .int (L42_x4 / 9)), (5, .int (L42_x4 - L42_x4 / 9 * 9)), (0, .ref b), (2, .int x2), (3, .int L42_x3), (4, .int L42_x4)]) hx hb dX13_reaches_78 hl (by decide) rfl (fun ls hl => ?_)
                refine lv_ldc hx hb hC.1.2.2.2.1 (hC.1.2.2.2.2 _ q8_126) dX13_reaches_80 ?_
                refine lv_istore (lv' := [(7, .int 100000), (6, .int (L42_x4 / 9)), (5, .int (L42_x4 - L42_x4 / 9 * 9)), (0, .ref b), (2, .int x2), (3, .int L42_x3), (4, .int L42_x4)]) hx hb dX13_reaches_82 hl (by decide) rfl (fun ls hl => ?_)
                obtain ⟨q84, hq84, hf⟩ := mm_bd hf
                have B84 : ∀ (X : Int32), f_X13_reaches_B84 L42_far L42_x4 (L42_x4 - L42_x4 / 9 * 9) 100000 = some X → (∀ (H : Heap) (locs : List Loc), mm_S G A s.heap L42_w H locs → ∀ (ls : Array Slot), lv_has ls 8 [(0, .ref b), (2, .int x2), (3, .int L42_x3), (4, .int L42_x4), (5, .int (L42_x4 - L42_x4 / 9 * 9)), (6, .int (L42_x4 / 9)), (7, .int X)] → W p l e ({ frames := 3, cells := 0, slots := 0, locals := 64 } : Room) s m args below meth c H locs 0 0 Q (F0 m 114 ls [])) → W p l e ({ frames := 3, cells := 0, slots := 0, locals := 64 } : Room) s m args below meth c H locs 0 0 Q (F0 m 84 ls []) := by
                  intro X hf hk
                  rw [f_X13_reaches_B84] at hf
                  refine lv_iload hx hb dX13_reaches_84 (lv_at hl 2 rfl) ?_
                  refine lv_if_le (tgt := 114) hx hb dX13_reaches_86 (by decide) (fun hcd => ?_) (fun hcd => ?_)
                  · rw [if_pos hcd] at hf
                    cases hf
                    exact hk _ _ hM _ (lv_sub hl [3, 4, 5, 6, 2, 1, 0] rfl)
                  · rw [if_neg hcd] at hf
                    refine lv_aload_n hx hb dX13_reaches_89 rfl (lv_at hl 3 rfl) ?_
                    refine mm_get hC hM (k := 9) hp_this.1 rfl inAX13 (by decide) q7_14 rfl dX13_reaches_90 ?_
                    refine lv_iload hx hb dX13_reaches_93 (lv_at hl 6 rfl) ?_
                    refine lv_iconst (v := 1) hx hb dX13_reaches_95 (by decide) ?_
                    refine lv_isub hx hb dX13_reaches_96 ?_
                    obtain ⟨hg97, hf⟩ := mm_gd hf
                    refine mm_iald hC hM (hp_this.2.2.2.2.2.1) hg97 dX13_reaches_97 ?_
                    refine lv_iload hx hb dX13_reaches_98 (lv_at hl 0 rfl) ?_
                    refine lv_icmp_ge (tgt := 114) hx hb dX13_reaches_100 (by decide) (fun hcd => ?_) (fun hcd => ?_)
                    · rw [if_pos hcd] at hf
                      cases hf
                      exact hk _ _ hM _ (lv_sub hl [3, 4, 5, 6, 2, 1, 0] rfl)
                    · rw [if_neg hcd] at hf
                      refine lv_aload_n hx hb dX13_reaches_103 rfl (lv_at hl 3 rfl) ?_
                      refine mm_get hC hM (k := 9) hp_this.1 rfl inAX13 (by decide) q7_14 rfl dX13_reaches_104 ?_
                      refine lv_iload hx hb dX13_reaches_107 (lv_at hl 6 rfl) ?_
                      refine lv_iconst (v := 1) hx hb dX13_reaches_109 (by decide) ?_
                      refine lv_isub hx hb dX13_reaches_110 ?_
                      obtain ⟨hg111, hf⟩ := mm_gd hf
                      refine mm_iald hC hM (hp_this.2.2.2.2.2.1) hg111 dX13_reaches_111 ?_
                      refine lv_istore (lv' := [(7, .int (L42_far (L42_x4 - 1).toNatClampNeg)), (6, .int (L42_x4 / 9)), (5, .int (L42_x4 - L42_x4 / 9 * 9)), (0, .ref b), (2, .int x2), (3, .int L42_x3), (4, .int L42_x4)]) hx hb dX13_reaches_112 hl (by decide) rfl (fun ls hl => ?_)
                      cases hf
                      exact hk _ _ hM _ (lv_sub hl [3, 4, 5, 6, 2, 1, 0] rfl)
                refine B84 _ hq84 (fun H locs hM ls hl => ?_)
                obtain ⟨q114, hq114, hf⟩ := mm_bd hf
                have B114 : ∀ (X : Int32), f_X13_reaches_B114 L42_far L42_x4 (L42_x4 - L42_x4 / 9 * 9) q84 = some X → (∀ (H : Heap) (locs : List Loc), mm_S G A s.heap L42_w H locs → ∀ (ls : Array Slot), lv_has ls 8 [(0, .ref b), (2, .int x2), (3, .int L42_x3), (4, .int L42_x4), (6, .int (L42_x4 / 9)), (7, .int X)] → W p l e ({ frames := 3, cells := 0, slots := 0, locals := 64 } : Room) s m args below meth c H locs 0 0 Q (F0 m 146 ls [])) → W p l e ({ frames := 3, cells := 0, slots := 0, locals := 64 } : Room) s m args below meth c H locs 0 0 Q (F0 m 114 ls []) := by
                  intro X hf hk
                  rw [f_X13_reaches_B114] at hf
                  refine lv_iload hx hb dX13_reaches_114 (lv_at hl 4 rfl) ?_
                  refine lv_bipush (v := 8) hx hb dX13_reaches_116 (by decide) ?_
                  refine lv_icmp_ge (tgt := 146) hx hb dX13_reaches_118 (by decide) (fun hcd => ?_) (fun hcd => ?_)
                  · rw [if_pos hcd] at hf
                    cases hf
                    exact hk _ _ hM _ (lv_sub hl [0, 1, 2, 3, 5, 6] rfl)
                  · rw [if_neg hcd] at hf
                    refine lv_aload_n hx hb dX13_reaches_121 rfl (lv_at hl 0 rfl) ?_
                    refine mm_get hC hM (k := 9) hp_this.1 rfl inAX13 (by decide) q7_14 rfl dX13_reaches_122 ?_
                    refine lv_iload hx hb dX13_reaches_125 (lv_at hl 3 rfl) ?_
                    refine lv_iconst (v := 1) hx hb dX13_reaches_127 (by decide) ?_
                    refine lv_iadd hx hb dX13_reaches_128 ?_
                    obtain ⟨hg129, hf⟩ := mm_gd hf
                    refine mm_iald hC hM (hp_this.2.2.2.2.2.1) hg129 dX13_reaches_129 ?_
                    refine lv_iload hx hb dX13_reaches_130 (lv_at hl 6 rfl) ?_
                    refine lv_icmp_ge (tgt := 146) hx hb dX13_reaches_132 (by decide) (fun hcd => ?_) (fun hcd => ?_)
                    · rw [if_pos hcd] at hf
                      cases hf
                      exact hk _ _ hM _ (lv_sub hl [0, 1, 2, 3, 5, 6] rfl)
                    · rw [if_neg hcd] at hf
                      refine lv_aload_n hx hb dX13_reaches_135 rfl (lv_at hl 0 rfl) ?_
                      refine mm_get hC hM (k := 9) hp_this.1 rfl inAX13 (by decide) q7_14 rfl dX13_reaches_136 ?_
                      refine lv_iload hx hb dX13_reaches_139 (lv_at hl 3 rfl) ?_
                      refine lv_iconst (v := 1) hx hb dX13_reaches_141 (by decide) ?_
                      refine lv_iadd hx hb dX13_reaches_142 ?_
                      obtain ⟨hg143, hf⟩ := mm_gd hf
                      refine mm_iald hC hM (hp_this.2.2.2.2.2.1) hg143 dX13_reaches_143 ?_
                      refine lv_istore (lv' := [(7, .int (L42_far (L42_x4 + 1).toNatClampNeg)), (0, .ref b), (2, .int x2), (3, .int L42_x3), (4, .int L42_x4), (5, .int (L42_x4 - L42_x4 / 9 * 9)), (6, .int (L42_x4 / 9))]) hx hb dX13_reaches_144 hl (by decide) rfl (fun ls hl => ?_)
                      cases hf
                      exact hk _ _ hM _ (lv_sub hl [1, 2, 3, 4, 6, 0] rfl)
                refine B114 _ hq114 (fun H locs hM ls hl => ?_)
                obtain ⟨q146, hq146, hf⟩ := mm_bd hf
                have B146 : ∀ (X : Int32), f_X13_reaches_B146 L42_far L42_x4 (L42_x4 / 9) q114 = some X → (∀ (H : Heap) (locs : List Loc), mm_S G A s.heap L42_w H locs → ∀ (ls : Array Slot), lv_has ls 8 [(0, .ref b), (2, .int x2), (3, .int L42_x3), (4, .int L42_x4), (6, .int (L42_x4 / 9)), (7, .int X)] → W p l e ({ frames := 3, cells := 0, slots := 0, locals := 64 } : Room) s m args below meth c H locs 0 0 Q (F0 m 178 ls [])) → W p l e ({ frames := 3, cells := 0, slots := 0, locals := 64 } : Room) s m args below meth c H locs 0 0 Q (F0 m 146 ls []) := by
                  intro X hf hk
                  rw [f_X13_reaches_B146] at hf
                  refine lv_iload hx hb dX13_reaches_146 (lv_at hl 4 rfl) ?_
                  refine lv_if_le (tgt := 178) hx hb dX13_reaches_148 (by decide) (fun hcd => ?_) (fun hcd => ?_)
                  · rw [if_pos hcd] at hf
                    cases hf
                    exact hk _ _ hM _ (lv_sub hl [0, 1, 2, 3, 4, 5] rfl)
                  · rw [if_neg hcd] at hf
                    refine lv_aload_n hx hb dX13_reaches_151 rfl (lv_at hl 0 rfl) ?_
                    refine mm_get hC hM (k := 9) hp_this.1 rfl inAX13 (by decide) q7_14 rfl dX13_reaches_152 ?_
                    refine lv_iload hx hb dX13_reaches_155 (lv_at hl 3 rfl) ?_
                    refine lv_bipush (v := 9) hx hb dX13_reaches_157 (by decide) ?_
                    refine lv_isub hx hb dX13_reaches_159 ?_
                    obtain ⟨hg160, hf⟩ := mm_gd hf
                    refine mm_iald hC hM (hp_this.2.2.2.2.2.1) hg160 dX13_reaches_160 ?_
                    refine lv_iload hx hb dX13_reaches_161 (lv_at hl 5 rfl) ?_
                    refine lv_icmp_ge (tgt := 178) hx hb dX13_reaches_163 (by decide) (fun hcd => ?_) (fun hcd => ?_)
                    · rw [if_pos hcd] at hf
                      cases hf
                      exact hk _ _ hM _ (lv_sub hl [0, 1, 2, 3, 4, 5] rfl)
                    · rw [if_neg hcd] at hf
                      refine lv_aload_n hx hb dX13_reaches_166 rfl (lv_at hl 0 rfl) ?_
                      refine mm_get hC hM (k := 9) hp_this.1 rfl inAX13 (by decide) q7_14 rfl dX13_reaches_167 ?_
                      refine lv_iload hx hb dX13_reaches_170 (lv_at hl 3 rfl) ?_
                      refine lv_bipush (v := 9) hx hb dX13_reaches_172 (by decide) ?_
                      refine lv_isub hx hb dX13_reaches_174 ?_
                      obtain ⟨hg175, hf⟩ := mm_gd hf
                      refine mm_iald hC hM (hp_this.2.2.2.2.2.1) hg175 dX13_reaches_175 ?_
                      refine lv_istore (lv' := [(7, .int (L42_far (L42_x4 - 9).toNatClampNeg)), (0, .ref b), (2, .int x2), (3, .int L42_x3), (4, .int L42_x4), (6, .int (L42_x4 / 9))]) hx hb dX13_reaches_176 hl (by decide) rfl (fun ls hl => ?_)
                      cases hf
                      exact hk _ _ hM _ (lv_sub hl [1, 2, 3, 4, 5, 0] rfl)
                refine B146 _ hq146 (fun H locs hM ls hl => ?_)
                obtain ⟨q178, hq178, hf⟩ := mm_bd hf
                have B178 : ∀ (X : Int32), f_X13_reaches_B178 L42_far L42_x4 (L42_x4 / 9) q146 = some X → (∀ (H : Heap) (locs : List Loc), mm_S G A s.heap L42_w H locs → ∀ (ls : Array Slot), lv_has ls 8 [(0, .ref b), (2, .int x2), (3, .int L42_x3), (4, .int L42_x4), (7, .int X)] → W p l e ({ frames := 3, cells := 0, slots := 0, locals := 64 } : Room) s m args below meth c H locs 0 0 Q (F0 m 212 ls [])) → W p l e ({ frames := 3, cells := 0, slots := 0, locals := 64 } : Room) s m args below meth c H locs 0 0 Q (F0 m 178 ls []) := by
                  intro X hf hk
                  rw [f_X13_reaches_B178] at hf
                  refine lv_iload hx hb dX13_reaches_178 (lv_at hl 4 rfl) ?_
                  refine lv_bipush (v := 8) hx hb dX13_reaches_180 (by decide) ?_
                  refine lv_icmp_ge (tgt := 212) hx hb dX13_reaches_182 (by decide) (fun hcd => ?_) (fun hcd => ?_)
                  · rw [if_pos hcd] at hf
                    cases hf
                    exact hk _ _ hM _ (lv_sub hl [0, 1, 2, 3, 5] rfl)
                  · rw [if_neg hcd] at hf
                    refine lv_aload_n hx hb dX13_reaches_185 rfl (lv_at hl 0 rfl) ?_
                    refine mm_get hC hM (k := 9) hp_this.1 rfl inAX13 (by decide) q7_14 rfl dX13_reaches_186 ?_
                    refine lv_iload hx hb dX13_reaches_189 (lv_at hl 3 rfl) ?_
                    refine lv_bipush (v := 9) hx hb dX13_reaches_191 (by decide) ?_
                    refine lv_iadd hx hb dX13_reaches_193 ?_
                    obtain ⟨hg194, hf⟩ := mm_gd hf
                    refine mm_iald hC hM (hp_this.2.2.2.2.2.1) hg194 dX13_reaches_194 ?_
                    refine lv_iload hx hb dX13_reaches_195 (lv_at hl 5 rfl) ?_
                    refine lv_icmp_ge (tgt := 212) hx hb dX13_reaches_197 (by decide) (fun hcd => ?_) (fun hcd => ?_)
                    · rw [if_pos hcd] at hf
                      cases hf
                      exact hk _ _ hM _ (lv_sub hl [0, 1, 2, 3, 5] rfl)
                    · rw [if_neg hcd] at hf
                      refine lv_aload_n hx hb dX13_reaches_200 rfl (lv_at hl 0 rfl) ?_
                      refine mm_get hC hM (k := 9) hp_this.1 rfl inAX13 (by decide) q7_14 rfl dX13_reaches_201 ?_
                      refine lv_iload hx hb dX13_reaches_204 (lv_at hl 3 rfl) ?_
                      refine lv_bipush (v := 9) hx hb dX13_reaches_206 (by decide) ?_
                      refine lv_iadd hx hb dX13_reaches_208 ?_
                      obtain ⟨hg209, hf⟩ := mm_gd hf
                      refine mm_iald hC hM (hp_this.2.2.2.2.2.1) hg209 dX13_reaches_209 ?_
                      refine lv_istore (lv' := [(7, .int (L42_far (L42_x4 + 9).toNatClampNeg)), (0, .ref b), (2, .int x2), (3, .int L42_x3), (4, .int L42_x4), (6, .int (L42_x4 / 9))]) hx hb dX13_reaches_210 hl (by decide) rfl (fun ls hl => ?_)
                      cases hf
                      exact hk _ _ hM _ (lv_sub hl [1, 2, 3, 4, 0] rfl)
                refine B178 _ hq178 (fun H locs hM ls hl => ?_)
                refine lv_iload hx hb dX13_reaches_212 (lv_at hl 4 rfl) ?_
                refine lv_ldc hx hb hC.1.2.2.2.1 (hC.1.2.2.2.2 _ q8_126) dX13_reaches_214 ?_
                refine lv_icmp_eq (tgt := 261) hx hb dX13_reaches_216 (by decide) (fun hcd => ?_) (fun hcd => ?_)
                · rw [if_pos hcd] at hf
                  refine lv_iinc (v := (L42_x4 + 1)) (lv' := [(4, .int (L42_x4 + 1)), (0, .ref b), (2, .int x2), (3, .int L42_x3), (7, .int q178)]) hx hb dX13_reaches_261 hl (k := 3) rfl rfl (by decide) rfl (fun ls hl => ?_)
                  refine lv_goto (tgt := 42) hx hb dX13_reaches_264 (by decide) ?_
                  exact ih _ _ _ _ hf _ _ _ hM hp_this hF _ (lv_sub hl [1, 2, 3, 0] rfl) hk
                · rw [if_neg hcd] at hf
                  refine lv_iload hx hb dX13_reaches_219 (lv_at hl 4 rfl) ?_
                  refine lv_aload_n hx hb dX13_reaches_221 rfl (lv_at hl 0 rfl) ?_
                  refine lv_iload hx hb dX13_reaches_222 (lv_at hl 3 rfl) ?_
                  refine lv_iload_n hx hb dX13_reaches_224 rfl (lv_at hl 1 rfl) ?_
                  obtain ⟨q225, hq225, hf⟩ := mm_bd hf
                  refine mm_Vi (rest := [.int q178]) hC hM (c_X13_costs l hq225 hp_this) q8_130 q1_12 ykX13_costs q8_127 q8_129 qp_c96fac78 hp_this.1 rfl ⟨rfl, rfl⟩ ⟨Nat.le_of_ble_eq_true rfl, Nat.le_of_ble_eq_true rfl⟩ rfl hl.1 rfl (Nat.le_of_ble_eq_true rfl) dX13_reaches_225 ⟨Nat.le_of_ble_eq_true rfl, Nat.le_of_ble_eq_true rfl⟩ (fun r w225 H locs hM hw => ?_)
                  obtain ⟨hr, hw⟩ := hw
                  rw [hr]
                  rw [hw] at hM
                  refine lv_iadd hx hb dX13_reaches_228 ?_
                  refine lv_aload_n hx hb dX13_reaches_229 rfl (lv_at hl 0 rfl) ?_
                  refine mm_get hC hM (k := 9) hp_this.1 rfl inAX13 (by decide) q7_14 rfl dX13_reaches_230 ?_
                  refine lv_iload hx hb dX13_reaches_233 (lv_at hl 3 rfl) ?_
                  obtain ⟨hg235, hf⟩ := mm_gd hf
                  refine mm_iald hC hM (hp_this.2.2.2.2.2.1) hg235 dX13_reaches_235 ?_
                  refine lv_icmp_lt (tgt := 242) hx hb dX13_reaches_236 (by decide) (fun hcd => ?_) (fun hcd => ?_)
                  · rw [if_pos hcd] at hf
                    refine lv_aload_n hx hb dX13_reaches_242 rfl (lv_at hl 0 rfl) ?_
                    refine mm_get hC hM (k := 9) hp_this.1 rfl inAX13 (by decide) q7_14 rfl dX13_reaches_243 ?_
                    refine lv_iload hx hb dX13_reaches_246 (lv_at hl 3 rfl) ?_
                    refine lv_iload hx hb dX13_reaches_248 (lv_at hl 4 rfl) ?_
                    refine lv_aload_n hx hb dX13_reaches_250 rfl (lv_at hl 0 rfl) ?_
                    refine lv_iload hx hb dX13_reaches_251 (lv_at hl 3 rfl) ?_
                    refine lv_iload_n hx hb dX13_reaches_253 rfl (lv_at hl 1 rfl) ?_
                    obtain ⟨q254, hq254, hf⟩ := mm_bd hf
                    refine mm_Vi (rest := [.int q178, .int L42_x4, .ref (b + 5)]) hC hM (c_X13_costs l hq254 hp_this) q8_130 q1_12 ykX13_costs q8_127 q8_129 qp_c96fac78 hp_this.1 rfl ⟨rfl, rfl⟩ ⟨Nat.le_of_ble_eq_true rfl, Nat.le_of_ble_eq_true rfl⟩ rfl hl.1 rfl (Nat.le_of_ble_eq_true rfl) dX13_reaches_254 ⟨Nat.le_of_ble_eq_true rfl, Nat.le_of_ble_eq_true rfl⟩ (fun r w254 H locs hM hw => ?_)
                    obtain ⟨hr, hw⟩ := hw
                    rw [hr]
                    rw [hw] at hM
                    refine lv_iadd hx hb dX13_reaches_257 ?_
                    obtain ⟨hg258, hf⟩ := mm_gd hf
                    refine mm_iast hC hM (hp_this.2.2.2.2.2.1) hg258 dX13_reaches_258 (fun w258 H locs hM hm => ?_)
                    have hp_this : At13 G w258 b thrown changes errorAt failedAt isSaved v before saved past (upd L42_far L42_x4.toNatClampNeg (q178 + q254)) scratch best thenX thenY thenMet text line isLeft words wordAt textN hereP endP lineN isWrong isDoing := ⟨hm.keep (hp_this.1) (by omega), hm.keep (hp_this.2.1) (by omega), hm.keep (hp_this.2.2.1) (by omega), hm.keep (hp_this.2.2.2.1) (by omega), hm.keep (hp_this.2.2.2.2.1) (by omega), hm.1, hm.keep (hp_this.2.2.2.2.2.2.1) (by omega), hm.keep (hp_this.2.2.2.2.2.2.2.1) (by omega), hm.keep (hp_this.2.2.2.2.2.2.2.2.1) (by omega), hm.keep (hp_this.2.2.2.2.2.2.2.2.2.1) (by omega), hm.keep (hp_this.2.2.2.2.2.2.2.2.2.2.1) (by omega), hm.keep (hp_this.2.2.2.2.2.2.2.2.2.2.2.1) (by omega), hm.keep (hp_this.2.2.2.2.2.2.2.2.2.2.2.2) (by omega)⟩
                    have hF := hF.tr (hm.fr (by omega) (by omega))
                    refine lv_iconst (v := 1) hx hb dX13_reaches_259 (by decide) ?_
                    refine lv_istore_n (lv' := [(3, .int 1), (0, .ref b), (2, .int x2), (4, .int L42_x4), (7, .int q178)]) hx hb dX13_reaches_260 rfl hl (by decide) rfl (fun ls hl => ?_)
                    refine lv_iinc (v := (L42_x4 + 1)) (lv' := [(4, .int (L42_x4 + 1)), (3, .int 1), (0, .ref b), (2, .int x2), (7, .int q178)]) hx hb dX13_reaches_261 hl (k := 3) rfl rfl (by decide) rfl (fun ls hl => ?_)
                    refine lv_goto (tgt := 42) hx hb dX13_reaches_264 (by decide) ?_
                    exact ih _ _ _ _ hf _ _ _ hM hp_this hF _ (lv_sub hl [2, 3, 1, 0] rfl) hk
                  · rw [if_neg hcd] at hf
                    refine lv_goto (tgt := 261) hx hb dX13_reaches_239 (by decide) ?_
                    refine lv_iinc (v := (L42_x4 + 1)) (lv' := [(4, .int (L42_x4 + 1)), (0, .ref b), (2, .int x2), (3, .int L42_x3), (7, .int q178)]) hx hb dX13_reaches_261 hl (k := 3) rfl rfl (by decide) rfl (fun ls hl => ?_)
                    refine lv_goto (tgt := 42) hx hb dX13_reaches_264 (by decide) ?_
                    exact ih _ _ _ _ hf _ _ _ hM hp_this hF _ (lv_sub hl [1, 2, 3, 0] rfl) hk
              · rw [if_neg hcd] at hf
                refine lv_aload_n hx hb dX13_reaches_54 rfl (lv_at hl 0 rfl) ?_
                refine lv_iload hx hb dX13_reaches_55 (lv_at hl 3 rfl) ?_
                obtain ⟨q57, hq57, hf⟩ := mm_bd hf
                refine mm_Vi (rest := []) hC hM (c_X13_isFree l hq57 hp_this) q7_165 q1_12 ykX13_isFree q7_162 q7_164 qp_41d31006 hp_this.1 rfl ⟨rfl, rfl⟩ ⟨Nat.le_of_ble_eq_true rfl, Nat.le_of_ble_eq_true rfl⟩ rfl hl.1 rfl (Nat.le_of_ble_eq_true rfl) dX13_reaches_57 ⟨Nat.le_of_ble_eq_true rfl, Nat.le_of_ble_eq_true rfl⟩ (fun r w57 H locs hM hw => ?_)
                obtain ⟨hr, hw⟩ := hw
                rw [hr]
                rw [hw] at hM
                refine lv_if_ne (tgt := 66) hx hb dX13_reaches_60 (by decide) (fun hcd => ?_) (fun hcd => ?_)
                · rw [if_neg hcd] at hf
                  refine lv_iload hx hb dX13_reaches_66 (lv_at hl 3 rfl) ?_
                  refine lv_bipush (v := 9) hx hb dX13_reaches_68 (by decide) ?_
                  refine lv_irem hx hb dX13_reaches_70 (by decide) ?_
                  refine lv_istore (lv' := [(5, .int (L42_x4 - L42_x4 / 9 * 9)), (0, .ref b), (2, .int x2), (3, .int L42_x3), (4, .int L42_x4)]) hx hb dX13_reaches_71 hl (by decide) rfl (fun ls hl => ?_)
                  refine lv_iload hx hb dX13_reaches_73 (lv_at hl 4 rfl) ?_
                  refine lv_bipush (v := 9) hx hb dX13_reaches_75 (by decide) ?_
                  refine lv_idiv hx hb dX13_reaches_77 (by decide) ?_
                  refine lv_istore (lv' := [(6, .int (L42_x4 / 9)), (5, .int (L42_x4 - L42_x4 / 9 * 9)), (0, .ref b), (2, .int x2), (3, .int L42_x3), (4, .int L42_x4)]) hx hb dX13_reaches_78 hl (by decide) rfl (fun ls hl => ?_)
                  refine lv_ldc hx hb hC.1.2.2.2.1 (hC.1.2.2.2.2 _ q8_126) dX13_reaches_80 ?_
                  refine lv_istore (lv' := [(7, .int 100000), (6, .int (L42_x4 / 9)), (5, .int (L42_x4 - L42_x4 / 9 * 9)), (0, .ref b), (2, .int x2), (3, .int L42_x3), (4, .int L42_x4)]) hx hb dX13_reaches_82 hl (by decide) rfl (fun ls hl => ?_)
                  obtain ⟨q84, hq84, hf⟩ := mm_bd hf
                  have B84 : ∀ (X : Int32), f_X13_reaches_B84 L42_far L42_x4 (L42_x4 - L42_x4 / 9 * 9) 100000 = some X → (∀ (H : Heap) (locs : List Loc), mm_S G A s.heap L42_w H locs → ∀ (ls : Array Slot), lv_has ls 8 [(0, .ref b), (2, .int x2), (3, .int L42_x3), (4, .int L42_x4), (5, .int (L42_x4 - L42_x4 / 9 * 9)), (6, .int (L42_x4 / 9)), (7, .int X)] → W p l e ({ frames := 3, cells := 0, slots := 0, locals := 64 } : Room) s m args below meth c H locs 0 0 Q (F0 m 114 ls [])) → W p l e ({ frames := 3, cells := 0, slots := 0, locals := 64 } : Room) s m args below meth c H locs 0 0 Q (F0 m 84 ls []) := by
                    intro X hf hk
                    rw [f_X13_reaches_B84] at hf
                    refine lv_iload hx hb dX13_reaches_84 (lv_at hl 2 rfl) ?_
                    refine lv_if_le (tgt := 114) hx hb dX13_reaches_86 (by decide) (fun hcd => ?_) (fun hcd => ?_)
                    · rw [if_pos hcd] at hf
                      cases hf
                      exact hk _ _ hM _ (lv_sub hl [3, 4, 5, 6, 2, 1, 0] rfl)
                    · rw [if_neg hcd] at hf
                      refine lv_aload_n hx hb dX13_reaches_89 rfl (lv_at hl 3 rfl) ?_
                      refine mm_get hC hM (k := 9) hp_this.1 rfl inAX13 (by decide) q7_14 rfl dX13_reaches_90 ?_
                      refine lv_iload hx hb dX13_reaches_93 (lv_at hl 6 rfl) ?_
                      refine lv_iconst (v := 1) hx hb dX13_reaches_95 (by decide) ?_
                      refine lv_isub hx hb dX13_reaches_96 ?_
                      obtain ⟨hg97, hf⟩ := mm_gd hf
                      refine mm_iald hC hM (hp_this.2.2.2.2.2.1) hg97 dX13_reaches_97 ?_
                      refine lv_iload hx hb dX13_reaches_98 (lv_at hl 0 rfl) ?_
                      refine lv_icmp_ge (tgt := 114) hx hb dX13_reaches_100 (by decide) (fun hcd => ?_) (fun hcd => ?_)
                      · rw [if_pos hcd] at hf
                        cases hf
                        exact hk _ _ hM _ (lv_sub hl [3, 4, 5, 6, 2, 1, 0] rfl)
                      · rw [if_neg hcd] at hf
                        refine lv_aload_n hx hb dX13_reaches_103 rfl (lv_at hl 3 rfl) ?_
                        refine mm_get hC hM (k := 9) hp_this.1 rfl inAX13 (by decide) q7_14 rfl dX13_reaches_104 ?_
                        refine lv_iload hx hb dX13_reaches_107 (lv_at hl 6 rfl) ?_
                        refine lv_iconst (v := 1) hx hb dX13_reaches_109 (by decide) ?_
                        refine lv_isub hx hb dX13_reaches_110 ?_
                        obtain ⟨hg111, hf⟩ := mm_gd hf
                        refine mm_iald hC hM (hp_this.2.2.2.2.2.1) hg111 dX13_reaches_111 ?_
                        refine lv_istore (lv' := [(7, .int (L42_far (L42_x4 - 1).toNatClampNeg)), (6, .int (L42_x4 / 9)), (5, .int (L42_x4 - L42_x4 / 9 * 9)), (0, .ref b), (2, .int x2), (3, .int L42_x3), (4, .int L42_x4)]) hx hb dX13_reaches_112 hl (by decide) rfl (fun ls hl => ?_)
                        cases hf
                        exact hk _ _ hM _ (lv_sub hl [3, 4, 5, 6, 2, 1, 0] rfl)
                  refine B84 _ hq84 (fun H locs hM ls hl => ?_)
                  obtain ⟨q114, hq114, hf⟩ := mm_bd hf
                  have B114 : ∀ (X : Int32), f_X13_reaches_B114 L42_far L42_x4 (L42_x4 - L42_x4 / 9 * 9) q84 = some X → (∀ (H : Heap) (locs : List Loc), mm_S G A s.heap L42_w H locs → ∀ (ls : Array Slot), lv_has ls 8 [(0, .ref b), (2, .int x2), (3, .int L42_x3), (4, .int L42_x4), (6, .int (L42_x4 / 9)), (7, .int X)] → W p l e ({ frames := 3, cells := 0, slots := 0, locals := 64 } : Room) s m args below meth c H locs 0 0 Q (F0 m 146 ls [])) → W p l e ({ frames := 3, cells := 0, slots := 0, locals := 64 } : Room) s m args below meth c H locs 0 0 Q (F0 m 114 ls []) := by
                    intro X hf hk
                    rw [f_X13_reaches_B114] at hf
                    refine lv_iload hx hb dX13_reaches_114 (lv_at hl 4 rfl) ?_
                    refine lv_bipush (v := 8) hx hb dX13_reaches_116 (by decide) ?_
                    refine lv_icmp_ge (tgt := 146) hx hb dX13_reaches_118 (by decide) (fun hcd => ?_) (fun hcd => ?_)
                    · rw [if_pos hcd] at hf
                      cases hf
                      exact hk _ _ hM _ (lv_sub hl [0, 1, 2, 3, 5, 6] rfl)
                    · rw [if_neg hcd] at hf
                      refine lv_aload_n hx hb dX13_reaches_121 rfl (lv_at hl 0 rfl) ?_
                      refine mm_get hC hM (k := 9) hp_this.1 rfl inAX13 (by decide) q7_14 rfl dX13_reaches_122 ?_
                      refine lv_iload hx hb dX13_reaches_125 (lv_at hl 3 rfl) ?_
                      refine lv_iconst (v := 1) hx hb dX13_reaches_127 (by decide) ?_
                      refine lv_iadd hx hb dX13_reaches_128 ?_
                      obtain ⟨hg129, hf⟩ := mm_gd hf
                      refine mm_iald hC hM (hp_this.2.2.2.2.2.1) hg129 dX13_reaches_129 ?_
                      refine lv_iload hx hb dX13_reaches_130 (lv_at hl 6 rfl) ?_
                      refine lv_icmp_ge (tgt := 146) hx hb dX13_reaches_132 (by decide) (fun hcd => ?_) (fun hcd => ?_)
                      · rw [if_pos hcd] at hf
                        cases hf
                        exact hk _ _ hM _ (lv_sub hl [0, 1, 2, 3, 5, 6] rfl)
                      · rw [if_neg hcd] at hf
                        refine lv_aload_n hx hb dX13_reaches_135 rfl (lv_at hl 0 rfl) ?_
                        refine mm_get hC hM (k := 9) hp_this.1 rfl inAX13 (by decide) q7_14 rfl dX13_reaches_136 ?_
                        refine lv_iload hx hb dX13_reaches_139 (lv_at hl 3 rfl) ?_
                        refine lv_iconst (v := 1) hx hb dX13_reaches_141 (by decide) ?_
                        refine lv_iadd hx hb dX13_reaches_142 ?_
                        obtain ⟨hg143, hf⟩ := mm_gd hf
                        refine mm_iald hC hM (hp_this.2.2.2.2.2.1) hg143 dX13_reaches_143 ?_
                        refine lv_istore (lv' := [(7, .int (L42_far (L42_x4 + 1).toNatClampNeg)), (0, .ref b), (2, .int x2), (3, .int L42_x3), (4, .int L42_x4), (5, .int (L42_x4 - L42_x4 / 9 * 9)), (6, .int (L42_x4 / 9))]) hx hb dX13_reaches_144 hl (by decide) rfl (fun ls hl => ?_)
                        cases hf
                        exact hk _ _ hM _ (lv_sub hl [1, 2, 3, 4, 6, 0] rfl)
                  refine B114 _ hq114 (fun H locs hM ls hl => ?_)
                  obtain ⟨q146, hq146, hf⟩ := mm_bd hf
                  have B146 : ∀ (X : Int32), f_X13_reaches_B146 L42_far L42_x4 (L42_x4 / 9) q114 = some X → (∀ (H : Heap) (locs : List Loc), mm_S G A s.heap L42_w H locs → ∀ (ls : Array Slot), lv_has ls 8 [(0, .ref b), (2, .int x2), (3, .int L42_x3), (4, .int L42_x4), (6, .int (L42_x4 / 9)), (7, .int X)] → W p l e ({ frames := 3, cells := 0, slots := 0, locals := 64 } : Room) s m args below meth c H locs 0 0 Q (F0 m 178 ls [])) → W p l e ({ frames := 3, cells := 0, slots := 0, locals := 64 } : Room) s m args below meth c H locs 0 0 Q (F0 m 146 ls []) := by
                    intro X hf hk
                    rw [f_X13_reaches_B146] at hf
                    refine lv_iload hx hb dX13_reaches_146 (lv_at hl 4 rfl) ?_
                    refine lv_if_le (tgt := 178) hx hb dX13_reaches_148 (by decide) (fun hcd => ?_) (fun hcd => ?_)
                    · rw [if_pos hcd] at hf
                      cases hf
                      exact hk _ _ hM _ (lv_sub hl [0, 1, 2, 3, 4, 5] rfl)
                    · rw [if_neg hcd] at hf
                      refine lv_aload_n hx hb dX13_reaches_151 rfl (lv_at hl 0 rfl) ?_
                      refine mm_get hC hM (k := 9) hp_this.1 rfl inAX13 (by decide) q7_14 rfl dX13_reaches_152 ?_
                      refine lv_iload hx hb dX13_reaches_155 (lv_at hl 3 rfl) ?_
                      refine lv_bipush (v := 9) hx hb dX13_reaches_157 (by decide) ?_
                      refine lv_isub hx hb dX13_reaches_159 ?_
                      obtain ⟨hg160, hf⟩ := mm_gd hf
                      refine mm_iald hC hM (hp_this.2.2.2.2.2.1) hg160 dX13_reaches_160 ?_
                      refine lv_iload hx hb dX13_reaches_161 (lv_at hl 5 rfl) ?_
                      refine lv_icmp_ge (tgt := 178) hx hb dX13_reaches_163 (by decide) (fun hcd => ?_) (fun hcd => ?_)
                      · rw [if_pos hcd] at hf
                        cases hf
                        exact hk _ _ hM _ (lv_sub hl [0, 1, 2, 3, 4, 5] rfl)
                      · rw [if_neg hcd] at hf
                        refine lv_aload_n hx hb dX13_reaches_166 rfl (lv_at hl 0 rfl) ?_
                        refine mm_get hC hM (k := 9) hp_this.1 rfl inAX13 (by decide) q7_14 rfl dX13_reaches_167 ?_
                        refine lv_iload hx hb dX13_reaches_170 (lv_at hl 3 rfl) ?_
                        refine lv_bipush (v := 9) hx hb dX13_reaches_172 (by decide) ?_
                        refine lv_isub hx hb dX13_reaches_174 ?_
                        obtain ⟨hg175, hf⟩ := mm_gd hf
                        refine mm_iald hC hM (hp_this.2.2.2.2.2.1) hg175 dX13_reaches_175 ?_
                        refine lv_istore (lv' := [(7, .int (L42_far (L42_x4 - 9).toNatClampNeg)), (0, .ref b), (2, .int x2), (3, .int L42_x3), (4, .int L42_x4), (6, .int (L42_x4 / 9))]) hx hb dX13_reaches_176 hl (by decide) rfl (fun ls hl => ?_)
                        cases hf
                        exact hk _ _ hM _ (lv_sub hl [1, 2, 3, 4, 5, 0] rfl)
                  refine B146 _ hq146 (fun H locs hM ls hl => ?_)
                  obtain ⟨q178, hq178, hf⟩ := mm_bd hf
                  have B178 : ∀ (X : Int32), f_X13_reaches_B178 L42_far L42_x4 (L42_x4 / 9) q146 = some X → (∀ (H : Heap) (locs : List Loc), mm_S G A s.heap L42_w H locs → ∀ (ls : Array Slot), lv_has ls 8 [(0, .ref b), (2, .int x2), (3, .int L42_x3), (4, .int L42_x4), (7, .int X)] → W p l e ({ frames := 3, cells := 0, slots := 0, locals := 64 } : Room) s m args below meth c H locs 0 0 Q (F0 m 212 ls [])) → W p l e ({ frames := 3, cells := 0, slots := 0, locals := 64 } : Room) s m args below meth c H locs 0 0 Q (F0 m 178 ls []) := by
                    intro X hf hk
                    rw [f_X13_reaches_B178] at hf
                    refine lv_iload hx hb dX13_reaches_178 (lv_at hl 4 rfl) ?_
                    refine lv_bipush (v := 8) hx hb dX13_reaches_180 (by decide) ?_
                    refine lv_icmp_ge (tgt := 212) hx hb dX13_reaches_182 (by decide) (fun hcd => ?_) (fun hcd => ?_)
                    · rw [if_pos hcd] at hf
                      cases hf
                      exact hk _ _ hM _ (lv_sub hl [0, 1, 2, 3, 5] rfl)
                    · rw [if_neg hcd] at hf
                      refine lv_aload_n hx hb dX13_reaches_185 rfl (lv_at hl 0 rfl) ?_
                      refine mm_get hC hM (k := 9) hp_this.1 rfl inAX13 (by decide) q7_14 rfl dX13_reaches_186 ?_
                      refine lv_iload hx hb dX13_reaches_189 (lv_at hl 3 rfl) ?_
                      refine lv_bipush (v := 9) hx hb dX13_reaches_191 (by decide) ?_
                      refine lv_iadd hx hb dX13_reaches_193 ?_
                      obtain ⟨hg194, hf⟩ := mm_gd hf
                      refine mm_iald hC hM (hp_this.2.2.2.2.2.1) hg194 dX13_reaches_194 ?_
                      refine lv_iload hx hb dX13_reaches_195 (lv_at hl 5 rfl) ?_
                      refine lv_icmp_ge (tgt := 212) hx hb dX13_reaches_197 (by decide) (fun hcd => ?_) (fun hcd => ?_)
                      · rw [if_pos hcd] at hf
                        cases hf
                        exact hk _ _ hM _ (lv_sub hl [0, 1, 2, 3, 5] rfl)
                      · rw [if_neg hcd] at hf
                        refine lv_aload_n hx hb dX13_reaches_200 rfl (lv_at hl 0 rfl) ?_
                        refine mm_get hC hM (k := 9) hp_this.1 rfl inAX13 (by decide) q7_14 rfl dX13_reaches_201 ?_
                        refine lv_iload hx hb dX13_reaches_204 (lv_at hl 3 rfl) ?_
                        refine lv_bipush (v := 9) hx hb dX13_reaches_206 (by decide) ?_
                        refine lv_iadd hx hb dX13_reaches_208 ?_
                        obtain ⟨hg209, hf⟩ := mm_gd hf
                        refine mm_iald hC hM (hp_this.2.2.2.2.2.1) hg209 dX13_reaches_209 ?_
                        refine lv_istore (lv' := [(7, .int (L42_far (L42_x4 + 9).toNatClampNeg)), (0, .ref b), (2, .int x2), (3, .int L42_x3), (4, .int L42_x4), (6, .int (L42_x4 / 9))]) hx hb dX13_reaches_210 hl (by decide) rfl (fun ls hl => ?_)
                        cases hf
                        exact hk _ _ hM _ (lv_sub hl [1, 2, 3, 4, 0] rfl)
                  refine B178 _ hq178 (fun H locs hM ls hl => ?_)
                  refine lv_iload hx hb dX13_reaches_212 (lv_at hl 4 rfl) ?_
                  refine lv_ldc hx hb hC.1.2.2.2.1 (hC.1.2.2.2.2 _ q8_126) dX13_reaches_214 ?_
                  refine lv_icmp_eq (tgt := 261) hx hb dX13_reaches_216 (by decide) (fun hcd => ?_) (fun hcd => ?_)
                  · rw [if_pos hcd] at hf
                    refine lv_iinc (v := (L42_x4 + 1)) (lv' := [(4, .int (L42_x4 + 1)), (0, .ref b), (2, .int x2), (3, .int L42_x3), (7, .int q178)]) hx hb dX13_reaches_261 hl (k := 3) rfl rfl (by decide) rfl (fun ls hl => ?_)
                    refine lv_goto (tgt := 42) hx hb dX13_reaches_264 (by decide) ?_
                    exact ih _ _ _ _ hf _ _ _ hM hp_this hF _ (lv_sub hl [1, 2, 3, 0] rfl) hk
                  · rw [if_neg hcd] at hf
                    refine lv_iload hx hb dX13_reaches_219 (lv_at hl 4 rfl) ?_
                    refine lv_aload_n hx hb dX13_reaches_221 rfl (lv_at hl 0 rfl) ?_
                    refine lv_iload hx hb dX13_reaches_222 (lv_at hl 3 rfl) ?_
                    refine lv_iload_n hx hb dX13_reaches_224 rfl (lv_at hl 1 rfl) ?_
                    obtain ⟨q225, hq225, hf⟩ := mm_bd hf
                    refine mm_Vi (rest := [.int q178]) hC hM (c_X13_costs l hq225 hp_this) q8_130 q1_12 ykX13_costs q8_127 q8_129 qp_c96fac78 hp_this.1 rfl ⟨rfl, rfl⟩ ⟨Nat.le_of_ble_eq_true rfl, Nat.le_of_ble_eq_true rfl⟩ rfl hl.1 rfl (Nat.le_of_ble_eq_true rfl) dX13_reaches_225 ⟨Nat.le_of_ble_eq_true rfl, Nat.le_of_ble_eq_true rfl⟩ (fun r w225 H locs hM hw => ?_)
                    obtain ⟨hr, hw⟩ := hw
                    rw [hr]
                    rw [hw] at hM
                    refine lv_iadd hx hb dX13_reaches_228 ?_
                    refine lv_aload_n hx hb dX13_reaches_229 rfl (lv_at hl 0 rfl) ?_
                    refine mm_get hC hM (k := 9) hp_this.1 rfl inAX13 (by decide) q7_14 rfl dX13_reaches_230 ?_
                    refine lv_iload hx hb dX13_reaches_233 (lv_at hl 3 rfl) ?_
                    obtain ⟨hg235, hf⟩ := mm_gd hf
                    refine mm_iald hC hM (hp_this.2.2.2.2.2.1) hg235 dX13_reaches_235 ?_
                    refine lv_icmp_lt (tgt := 242) hx hb dX13_reaches_236 (by decide) (fun hcd => ?_) (fun hcd => ?_)
                    · rw [if_pos hcd] at hf
                      refine lv_aload_n hx hb dX13_reaches_242 rfl (lv_at hl 0 rfl) ?_
                      refine mm_get hC hM (k := 9) hp_this.1 rfl inAX13 (by decide) q7_14 rfl dX13_reaches_243 ?_
                      refine lv_iload hx hb dX13_reaches_246 (lv_at hl 3 rfl) ?_
                      refine lv_iload hx hb dX13_reaches_248 (lv_at hl 4 rfl) ?_
                      refine lv_aload_n hx hb dX13_reaches_250 rfl (lv_at hl 0 rfl) ?_
                      refine lv_iload hx hb dX13_reaches_251 (lv_at hl 3 rfl) ?_
                      refine lv_iload_n hx hb dX13_reaches_253 rfl (lv_at hl 1 rfl) ?_
                      obtain ⟨q254, hq254, hf⟩ := mm_bd hf
                      refine mm_Vi (rest := [.int q178, .int L42_x4, .ref (b + 5)]) hC hM (c_X13_costs l hq254 hp_this) q8_130 q1_12 ykX13_costs q8_127 q8_129 qp_c96fac78 hp_this.1 rfl ⟨rfl, rfl⟩ ⟨Nat.le_of_ble_eq_true rfl, Nat.le_of_ble_eq_true rfl⟩ rfl hl.1 rfl (Nat.le_of_ble_eq_true rfl) dX13_reaches_254 ⟨Nat.le_of_ble_eq_true rfl, Nat.le_of_ble_eq_true rfl⟩ (fun r w254 H locs hM hw => ?_)
                      obtain ⟨hr, hw⟩ := hw
                      rw [hr]
                      rw [hw] at hM
                      refine lv_iadd hx hb dX13_reaches_257 ?_
                      obtain ⟨hg258, hf⟩ := mm_gd hf
                      refine mm_iast hC hM (hp_this.2.2.2.2.2.1) hg258 dX13_reaches_258 (fun w258 H locs hM hm => ?_)
                      have hp_this : At13 G w258 b thrown changes errorAt failedAt isSaved v before saved past (upd L42_far L42_x4.toNatClampNeg (q178 + q254)) scratch best thenX thenY thenMet text line isLeft words wordAt textN hereP endP lineN isWrong isDoing := ⟨hm.keep (hp_this.1) (by omega), hm.keep (hp_this.2.1) (by omega), hm.keep (hp_this.2.2.1) (by omega), hm.keep (hp_this.2.2.2.1) (by omega), hm.keep (hp_this.2.2.2.2.1) (by omega), hm.1, hm.keep (hp_this.2.2.2.2.2.2.1) (by omega), hm.keep (hp_this.2.2.2.2.2.2.2.1) (by omega), hm.keep (hp_this.2.2.2.2.2.2.2.2.1) (by omega), hm.keep (hp_this.2.2.2.2.2.2.2.2.2.1) (by omega), hm.keep (hp_this.2.2.2.2.2.2.2.2.2.2.1) (by omega), hm.keep (hp_this.2.2.2.2.2.2.2.2.2.2.2.1) (by omega), hm.keep (hp_this.2.2.2.2.2.2.2.2.2.2.2.2) (by omega)⟩
                      have hF := hF.tr (hm.fr (by omega) (by omega))
                      refine lv_iconst (v := 1) hx hb dX13_reaches_259 (by decide) ?_
                      refine lv_istore_n (lv' := [(3, .int 1), (0, .ref b), (2, .int x2), (4, .int L42_x4), (7, .int q178)]) hx hb dX13_reaches_260 rfl hl (by decide) rfl (fun ls hl => ?_)
                      refine lv_iinc (v := (L42_x4 + 1)) (lv' := [(4, .int (L42_x4 + 1)), (3, .int 1), (0, .ref b), (2, .int x2), (7, .int q178)]) hx hb dX13_reaches_261 hl (k := 3) rfl rfl (by decide) rfl (fun ls hl => ?_)
                      refine lv_goto (tgt := 42) hx hb dX13_reaches_264 (by decide) ?_
                      exact ih _ _ _ _ hf _ _ _ hM hp_this hF _ (lv_sub hl [2, 3, 1, 0] rfl) hk
                    · rw [if_neg hcd] at hf
                      refine lv_goto (tgt := 261) hx hb dX13_reaches_239 (by decide) ?_
                      refine lv_iinc (v := (L42_x4 + 1)) (lv' := [(4, .int (L42_x4 + 1)), (0, .ref b), (2, .int x2), (3, .int L42_x3), (7, .int q178)]) hx hb dX13_reaches_261 hl (k := 3) rfl rfl (by decide) rfl (fun ls hl => ?_)
                      refine lv_goto (tgt := 42) hx hb dX13_reaches_264 (by decide) ?_
                      exact ih _ _ _ _ hf _ _ _ hM hp_this hF _ (lv_sub hl [1, 2, 3, 0] rfl) hk
                · rw [if_pos hcd] at hf
                  refine lv_goto (tgt := 261) hx hb dX13_reaches_63 (by decide) ?_
                  refine lv_iinc (v := (L42_x4 + 1)) (lv' := [(4, .int (L42_x4 + 1)), (0, .ref b), (2, .int x2), (3, .int L42_x3)]) hx hb dX13_reaches_261 hl (k := 3) rfl rfl (by decide) rfl (fun ls hl => ?_)
                  refine lv_goto (tgt := 42) hx hb dX13_reaches_264 (by decide) ?_
                  exact ih _ _ _ _ hf _ _ _ hM hp_this hF _ (lv_sub hl [1, 2, 3, 0] rfl) hk
        obtain ⟨q42, hq42, hf⟩ := mm_bd hf
        refine L42 K _ _ _ _ hq42 _ _ _ hM hp_this hF _ (lv_sub hl [2, 3, 1, 0] rfl) (fun w42 H locs hM hp_this hF ls hl => ?_)
        refine lv_goto (tgt := 33) hx hb dX13_reaches_267 (by decide) ?_
        exact ih _ _ _ hf _ _ _ hM hp_this hF _ (lv_sub hl [0, 1, 2] rfl) hk
  obtain ⟨q33, hq33, hf⟩ := mm_bd hf
  refine L33 K _ _ _ hq33 _ _ _ hM hp_this hF _ (lv_sub hl [1, 2, 0] rfl) (fun w33 H locs hM hp_this hF ls hl => ?_)
  cases hf
  exact hret hM dX13_reaches_270 ⟨hp_this, hF⟩
def f_X13_way (K : Nat) (v : Nat → Int32) (far : Nat → Int32) (x1 : Int32) (x2 : Int32) (x3 : Int32) (x4 : Int32) : Option (Int32 × Int32 × (Nat → Int32)) := (f_X13_find K v x1).bind fun q2 => if 0 ≤ q2 then (f_X13_isCell x2 x3).bind fun q20 => if q20 = 0 then (f_X13_fail 2).bind fun q28 => some (q28.1, q28.2, far) else (f_X13_where v q2).bind fun q41 => (f_X13_reaches K v far q41 x4).bind fun q46 => (f_X13_cell x2 x3).bind fun q55 => mm_g (mm_ck q55 81) (if (q46 q55.toNatClampNeg) = 100000 then (f_X13_fail 1).bind fun q70 => some (q70.1, q70.2, q46) else some ((q46 q55.toNatClampNeg), 0, q46)) else (f_X13_fail 1).bind fun q14 => some (q14.1, q14.2, far)
set_option maxHeartbeats 4000000 in
set_option maxRecDepth 100000 in
theorem c_X13_way (l : Launch) {G : mm_G} {K : Nat} {w : va_W} {sz : Nat} {b : Nat} {thrown : Int32} {changes : Int32} {errorAt : Int32} {failedAt : Int32} {isSaved : Int32} {v : Nat → Int32} {before : Nat → Int32} {saved : Nat → Int32} {past : Nat → Int32} {far : Nat → Int32} {scratch : Nat → Int32} {best : Nat → Int32} {thenX : Int32} {thenY : Int32} {thenMet : Int32} {text : Nat → Int32} {line : Nat → Int32} {isLeft : Nat → Int32} {words : Nat → Int32} {wordAt : Nat → Int32} {textN : Int32} {hereP : Int32} {endP : Int32} {lineN : Int32} {isWrong : Int32} {isDoing : Int32} {x1 : Int32} {x2 : Int32} {x3 : Int32} {x4 : Int32} {X : Int32 × Int32 × (Nat → Int32)} (hf : f_X13_way K v far x1 x2 x3 x4 = some X) (hp_this : At13 G w b thrown changes errorAt failedAt isSaved v before saved past far scratch best thenX thenY thenMet text line isLeft words wordAt textN hereP endP lineN isWrong isDoing) : Met l yX13_way (Cond.code yX13_way cX13_way 7 (some .int) :: gAll) ({ frames := 4, cells := 0, slots := 0, locals := 91 }) (va_Pc [.ref b, .int x1, .int x2, .int x3, .int x4] (mm_Pre G w sz)) (mm_Qi G w sz (fun r w' => r = X.1 ∧ At13 G w' b X.2.1 changes errorAt failedAt isSaved v before saved past X.2.2 scratch best thenX thenY thenMet text line isLeft words wordAt textN hereP endP lineN isWrong isDoing ∧ mm_fr w w' b (b + 13))) 0 0 (va_A w sz) := by
  refine mm_headI [.ref b, .int x1, .int x2, .int x3, .int x4] (by decide +kernel) rfl (Nat.le_of_ble_eq_true rfl) ?_
  intro p e s m args below meth c A Q hsz hC hM hret ls hl
  have hx := hC.1.1
  have hb := hC.1.2.1
  have hl : lv_has ls 7 [(0, .ref b), (1, .int x1), (2, .int x2), (3, .int x3), (4, .int x4)] := hl
  have hF : mm_fr w w b (b + 13) := mm_fr.rf
  rw [f_X13_way] at hf
  refine lv_aload_n hx hb dX13_way_0 rfl (lv_at hl 0 rfl) ?_
  refine lv_iload_n hx hb dX13_way_1 rfl (lv_at hl 1 rfl) ?_
  obtain ⟨q2, hq2, hf⟩ := mm_bd hf
  refine mm_Vi (rest := []) hC hM (c_X13_find l hq2 hp_this) q7_218 q1_12 ykX13_find q7_215 q7_217 qp_0f7fdc43 hp_this.1 rfl ⟨rfl, rfl⟩ ⟨Nat.le_of_ble_eq_true rfl, Nat.le_of_ble_eq_true rfl⟩ rfl hl.1 rfl (Nat.le_of_ble_eq_true rfl) dX13_way_2 ⟨Nat.le_of_ble_eq_true rfl, Nat.le_of_ble_eq_true rfl⟩ (fun r w2 H locs hM hw => ?_)
  obtain ⟨hr, hw⟩ := hw
  rw [hr]
  rw [hw] at hM
  refine lv_istore (lv' := [(5, .int q2), (0, .ref b), (1, .int x1), (2, .int x2), (3, .int x3), (4, .int x4)]) hx hb dX13_way_5 hl (by decide) rfl (fun ls hl => ?_)
  refine lv_iload hx hb dX13_way_7 (lv_at hl 0 rfl) ?_
  refine lv_if_ge (tgt := 18) hx hb dX13_way_9 (by decide) (fun hcd => ?_) (fun hcd => ?_)
  · rw [if_pos hcd] at hf
    refine lv_iload_n hx hb dX13_way_18 rfl (lv_at hl 3 rfl) ?_
    refine lv_iload_n hx hb dX13_way_19 rfl (lv_at hl 4 rfl) ?_
    obtain ⟨q20, hq20, hf⟩ := mm_bd hf
    refine mm_Si (rest := []) hC hM (c_X13_isCell l hq20) q7_105 q1_12 ykX13_isCell q7_103 q7_104 ⟨rfl, rfl⟩ ⟨Nat.le_of_ble_eq_true rfl, Nat.le_of_ble_eq_true rfl⟩ rfl hl.1 rfl (Nat.le_of_ble_eq_true rfl) dX13_way_20 ⟨Nat.le_of_ble_eq_true rfl, Nat.le_of_ble_eq_true rfl⟩ (fun r w20 H locs hM hw => ?_)
    obtain ⟨hr, hw⟩ := hw
    rw [hr]
    rw [hw] at hM
    refine lv_if_ne (tgt := 32) hx hb dX13_way_23 (by decide) (fun hcd => ?_) (fun hcd => ?_)
    · rw [if_neg hcd] at hf
      refine lv_aload_n hx hb dX13_way_32 rfl (lv_at hl 1 rfl) ?_
      refine lv_iconst (v := 0) hx hb dX13_way_33 (by decide) ?_
      refine mm_put hC hM (k := 0) tyX13 hp_this.1 rfl inAX13 tyX13_ok nmX13 (by decide) q7_5 rfl rfl rfl rfl (Nat.le_of_ble_eq_true rfl) dX13_way_34 (fun w34 H locs hM hm => ?_)
      have hp_this : At13 G w34 b 0 changes errorAt failedAt isSaved v before saved past far scratch best thenX thenY thenMet text line isLeft words wordAt textN hereP endP lineN isWrong isDoing := ⟨hm.1, hm.keep (hp_this.2.1) (by omega), hm.keep (hp_this.2.2.1) (by omega), hm.keep (hp_this.2.2.2.1) (by omega), hm.keep (hp_this.2.2.2.2.1) (by omega), hm.keep (hp_this.2.2.2.2.2.1) (by omega), hm.keep (hp_this.2.2.2.2.2.2.1) (by omega), hm.keep (hp_this.2.2.2.2.2.2.2.1) (by omega), hm.keep (hp_this.2.2.2.2.2.2.2.2.1) (by omega), hm.keep (hp_this.2.2.2.2.2.2.2.2.2.1) (by omega), hm.keep (hp_this.2.2.2.2.2.2.2.2.2.2.1) (by omega), hm.keep (hp_this.2.2.2.2.2.2.2.2.2.2.2.1) (by omega), hm.keep (hp_this.2.2.2.2.2.2.2.2.2.2.2.2) (by omega)⟩
      have hF := hF.tr (hm.fr (by omega) (by omega))
      refine lv_aload_n hx hb dX13_way_37 rfl (lv_at hl 1 rfl) ?_
      refine lv_aload_n hx hb dX13_way_38 rfl (lv_at hl 1 rfl) ?_
      refine lv_iload hx hb dX13_way_39 (lv_at hl 0 rfl) ?_
      obtain ⟨q41, hq41, hf⟩ := mm_bd hf
      refine mm_Vi (rest := [.ref b]) hC hM (c_X13_where l hq41 hp_this) q7_123 q1_12 ykX13_where q7_120 q7_122 qp_3e96a34e hp_this.1 rfl ⟨rfl, rfl⟩ ⟨Nat.le_of_ble_eq_true rfl, Nat.le_of_ble_eq_true rfl⟩ rfl hl.1 rfl (Nat.le_of_ble_eq_true rfl) dX13_way_41 ⟨Nat.le_of_ble_eq_true rfl, Nat.le_of_ble_eq_true rfl⟩ (fun r w41 H locs hM hw => ?_)
      obtain ⟨hr, hw⟩ := hw
      rw [hr]
      rw [hw] at hM
      refine lv_iload hx hb dX13_way_44 (lv_at hl 5 rfl) ?_
      obtain ⟨q46, hq46, hf⟩ := mm_bd hf
      refine mm_Vv (rest := []) hC hM (c_X13_reaches l hq46 hp_this) q8_125 q1_12 ykX13_reaches q8_122 q8_124 qp_f09907d5 hp_this.1 rfl ⟨rfl, rfl⟩ ⟨Nat.le_of_ble_eq_true rfl, Nat.le_of_ble_eq_true rfl⟩ rfl hl.1 rfl (Nat.le_of_ble_eq_true rfl) dX13_way_46 ⟨Nat.le_of_ble_eq_true rfl, Nat.le_of_ble_eq_true rfl⟩ (fun w46 H locs hM hw => ?_)
      obtain ⟨hn_this, hfr⟩ := hw
      have hp_this := hn_this
      have hF := hF.tr (hfr.wide (by omega) (by omega))
      refine lv_aload_n hx hb dX13_way_49 rfl (lv_at hl 1 rfl) ?_
      refine mm_get hC hM (k := 9) hp_this.1 rfl inAX13 (by decide) q7_14 rfl dX13_way_50 ?_
      refine lv_iload_n hx hb dX13_way_53 rfl (lv_at hl 3 rfl) ?_
      refine lv_iload_n hx hb dX13_way_54 rfl (lv_at hl 4 rfl) ?_
      obtain ⟨q55, hq55, hf⟩ := mm_bd hf
      refine mm_Si (rest := [.ref (b + 5)]) hC hM (c_X13_cell l hq55) q7_115 q1_12 ykX13_cell q7_113 q7_114 ⟨rfl, rfl⟩ ⟨Nat.le_of_ble_eq_true rfl, Nat.le_of_ble_eq_true rfl⟩ rfl hl.1 rfl (Nat.le_of_ble_eq_true rfl) dX13_way_55 ⟨Nat.le_of_ble_eq_true rfl, Nat.le_of_ble_eq_true rfl⟩ (fun r w55 H locs hM hw => ?_)
      obtain ⟨hr, hw⟩ := hw
      rw [hr]
      rw [hw] at hM
      obtain ⟨hg58, hf⟩ := mm_gd hf
      refine mm_iald hC hM (hp_this.2.2.2.2.2.1) hg58 dX13_way_58 ?_
      refine lv_istore (lv' := [(6, .int (q46 q55.toNatClampNeg)), (5, .int q2), (0, .ref b), (1, .int x1), (2, .int x2), (3, .int x3), (4, .int x4)]) hx hb dX13_way_59 hl (by decide) rfl (fun ls hl => ?_)
      refine lv_iload hx hb dX13_way_61 (lv_at hl 0 rfl) ?_
      refine lv_ldc hx hb hC.1.2.2.2.1 (hC.1.2.2.2.2 _ q8_126) dX13_way_63 ?_
      refine lv_icmp_ne (tgt := 76) hx hb dX13_way_65 (by decide) (fun hcd => ?_) (fun hcd => ?_)
      · rw [if_neg hcd] at hf
        refine lv_iload hx hb dX13_way_76 (lv_at hl 0 rfl) ?_
        cases hf
        exact hret hM dX13_way_78 rfl ⟨rfl, hp_this, hF⟩
      · rw [if_pos hcd] at hf
        refine lv_aload_n hx hb dX13_way_68 rfl (lv_at hl 2 rfl) ?_
        refine lv_iconst (v := 1) hx hb dX13_way_69 (by decide) ?_
        obtain ⟨q70, hq70, hf⟩ := mm_bd hf
        refine mm_Vi (rest := []) hC hM (c_X13_fail l hq70 hp_this) q7_112 q1_12 ykX13_fail q7_109 q7_111 qp_bcc4f98e hp_this.1 rfl ⟨rfl, rfl⟩ ⟨Nat.le_of_ble_eq_true rfl, Nat.le_of_ble_eq_true rfl⟩ rfl hl.1 rfl (Nat.le_of_ble_eq_true rfl) dX13_way_70 ⟨Nat.le_of_ble_eq_true rfl, Nat.le_of_ble_eq_true rfl⟩ (fun r w70 H locs hM hw => ?_)
        obtain ⟨hr, hn_this, hfr⟩ := hw
        rw [hr]
        have hp_this := hn_this
        have hF := hF.tr (hfr.wide (by omega) (by omega))
        refine lv_goto (tgt := 78) hx hb dX13_way_73 (by decide) ?_
        cases hf
        exact hret hM dX13_way_78 rfl ⟨rfl, hp_this, hF⟩
    · rw [if_pos hcd] at hf
      refine lv_aload_n hx hb dX13_way_26 rfl (lv_at hl 1 rfl) ?_
      refine lv_iconst (v := 2) hx hb dX13_way_27 (by decide) ?_
      obtain ⟨q28, hq28, hf⟩ := mm_bd hf
      refine mm_Vi (rest := []) hC hM (c_X13_fail l hq28 hp_this) q7_112 q1_12 ykX13_fail q7_109 q7_111 qp_bcc4f98e hp_this.1 rfl ⟨rfl, rfl⟩ ⟨Nat.le_of_ble_eq_true rfl, Nat.le_of_ble_eq_true rfl⟩ rfl hl.1 rfl (Nat.le_of_ble_eq_true rfl) dX13_way_28 ⟨Nat.le_of_ble_eq_true rfl, Nat.le_of_ble_eq_true rfl⟩ (fun r w28 H locs hM hw => ?_)
      obtain ⟨hr, hn_this, hfr⟩ := hw
      rw [hr]
      have hp_this := hn_this
      have hF := hF.tr (hfr.wide (by omega) (by omega))
      cases hf
      exact hret hM dX13_way_31 rfl ⟨rfl, hp_this, hF⟩
  · rw [if_neg hcd] at hf
    refine lv_aload_n hx hb dX13_way_12 rfl (lv_at hl 1 rfl) ?_
    refine lv_iconst (v := 1) hx hb dX13_way_13 (by decide) ?_
    obtain ⟨q14, hq14, hf⟩ := mm_bd hf
    refine mm_Vi (rest := []) hC hM (c_X13_fail l hq14 hp_this) q7_112 q1_12 ykX13_fail q7_109 q7_111 qp_bcc4f98e hp_this.1 rfl ⟨rfl, rfl⟩ ⟨Nat.le_of_ble_eq_true rfl, Nat.le_of_ble_eq_true rfl⟩ rfl hl.1 rfl (Nat.le_of_ble_eq_true rfl) dX13_way_14 ⟨Nat.le_of_ble_eq_true rfl, Nat.le_of_ble_eq_true rfl⟩ (fun r w14 H locs hM hw => ?_)
    obtain ⟨hr, hn_this, hfr⟩ := hw
    rw [hr]
    have hp_this := hn_this
    have hF := hF.tr (hfr.wide (by omega) (by omega))
    cases hf
    exact hret hM dX13_way_17 rfl ⟨rfl, hp_this, hF⟩
def f_X13_wayLength (K : Nat) (v : Nat → Int32) (far : Nat → Int32) (x1 : Int32) (x2 : Int32) (x3 : Int32) : Option (Int32 × Int32 × (Nat → Int32)) := (f_X13_way K v far x1 x2 x3 0).bind fun q5 => some (q5.1, q5.2.1, q5.2.2)
set_option maxHeartbeats 4000000 in
set_option maxRecDepth 100000 in
theorem c_X13_wayLength (l : Launch) {G : mm_G} {K : Nat} {w : va_W} {sz : Nat} {b : Nat} {thrown : Int32} {changes : Int32} {errorAt : Int32} {failedAt : Int32} {isSaved : Int32} {v : Nat → Int32} {before : Nat → Int32} {saved : Nat → Int32} {past : Nat → Int32} {far : Nat → Int32} {scratch : Nat → Int32} {best : Nat → Int32} {thenX : Int32} {thenY : Int32} {thenMet : Int32} {text : Nat → Int32} {line : Nat → Int32} {isLeft : Nat → Int32} {words : Nat → Int32} {wordAt : Nat → Int32} {textN : Int32} {hereP : Int32} {endP : Int32} {lineN : Int32} {isWrong : Int32} {isDoing : Int32} {x1 : Int32} {x2 : Int32} {x3 : Int32} {X : Int32 × Int32 × (Nat → Int32)} (hf : f_X13_wayLength K v far x1 x2 x3 = some X) (hp_this : At13 G w b thrown changes errorAt failedAt isSaved v before saved past far scratch best thenX thenY thenMet text line isLeft words wordAt textN hereP endP lineN isWrong isDoing) : Met l yX13_wayLength (Cond.code yX13_wayLength cX13_wayLength 4 (some .int) :: gAll) ({ frames := 5, cells := 0, slots := 0, locals := 117 }) (va_Pc [.ref b, .int x1, .int x2, .int x3] (mm_Pre G w sz)) (mm_Qi G w sz (fun r w' => r = X.1 ∧ At13 G w' b X.2.1 changes errorAt failedAt isSaved v before saved past X.2.2 scratch best thenX thenY thenMet text line isLeft words wordAt textN hereP endP lineN isWrong isDoing ∧ mm_fr w w' b (b + 13))) 0 0 (va_A w sz) := by
  refine mm_headI [.ref b, .int x1, .int x2, .int x3] (by decide +kernel) rfl (Nat.le_of_ble_eq_true rfl) ?_
  intro p e s m args below meth c A Q hsz hC hM hret ls hl
  have hx := hC.1.1
  have hb := hC.1.2.1
  have hl : lv_has ls 4 [(0, .ref b), (1, .int x1), (2, .int x2), (3, .int x3)] := hl
  have hF : mm_fr w w b (b + 13) := mm_fr.rf
  rw [f_X13_wayLength] at hf
  refine lv_aload_n hx hb dX13_wayLength_0 rfl (lv_at hl 0 rfl) ?_
  refine lv_iload_n hx hb dX13_wayLength_1 rfl (lv_at hl 1 rfl) ?_
  refine lv_iload_n hx hb dX13_wayLength_2 rfl (lv_at hl 2 rfl) ?_
  refine lv_iload_n hx hb dX13_wayLength_3 rfl (lv_at hl 3 rfl) ?_
  refine lv_iconst (v := 0) hx hb dX13_wayLength_4 (by decide) ?_
  obtain ⟨q5, hq5, hf⟩ := mm_bd hf
  refine mm_Vi (rest := []) hC hM (c_X13_way l hq5 hp_this) q8_121 q1_12 ykX13_way q8_118 q8_120 qp_e8ef5fbb hp_this.1 rfl ⟨rfl, rfl⟩ ⟨Nat.le_of_ble_eq_true rfl, Nat.le_of_ble_eq_true rfl⟩ rfl hl.1 rfl (Nat.le_of_ble_eq_true rfl) dX13_wayLength_5 ⟨Nat.le_of_ble_eq_true rfl, Nat.le_of_ble_eq_true rfl⟩ (fun r w5 H locs hM hw => ?_)
  obtain ⟨hr, hn_this, hfr⟩ := hw
  rw [hr]
  have hp_this := hn_this
  have hF := hF.tr (hfr.wide (by omega) (by omega))
  cases hf
  exact hret hM dX13_wayLength_8 rfl ⟨rfl, hp_this, hF⟩
def f_X13_wayLengthByRounds (K : Nat) (v : Nat → Int32) (far : Nat → Int32) (x1 : Int32) (x2 : Int32) (x3 : Int32) : Option (Int32 × Int32 × (Nat → Int32)) := (f_X13_way K v far x1 x2 x3 0).bind fun q5 => some (q5.1, q5.2.1, q5.2.2)
set_option maxHeartbeats 4000000 in
set_option maxRecDepth 100000 in
theorem c_X13_wayLengthByRounds (l : Launch) {G : mm_G} {K : Nat} {w : va_W} {sz : Nat} {b : Nat} {thrown : Int32} {changes : Int32} {errorAt : Int32} {failedAt : Int32} {isSaved : Int32} {v : Nat → Int32} {before : Nat → Int32} {saved : Nat → Int32} {past : Nat → Int32} {far : Nat → Int32} {scratch : Nat → Int32} {best : Nat → Int32} {thenX : Int32} {thenY : Int32} {thenMet : Int32} {text : Nat → Int32} {line : Nat → Int32} {isLeft : Nat → Int32} {words : Nat → Int32} {wordAt : Nat → Int32} {textN : Int32} {hereP : Int32} {endP : Int32} {lineN : Int32} {isWrong : Int32} {isDoing : Int32} {x1 : Int32} {x2 : Int32} {x3 : Int32} {X : Int32 × Int32 × (Nat → Int32)} (hf : f_X13_wayLengthByRounds K v far x1 x2 x3 = some X) (hp_this : At13 G w b thrown changes errorAt failedAt isSaved v before saved past far scratch best thenX thenY thenMet text line isLeft words wordAt textN hereP endP lineN isWrong isDoing) : Met l yX13_wayLengthByRounds (Cond.code yX13_wayLengthByRounds cX13_wayLengthByRounds 4 (some .int) :: gAll) ({ frames := 5, cells := 0, slots := 0, locals := 117 }) (va_Pc [.ref b, .int x1, .int x2, .int x3] (mm_Pre G w sz)) (mm_Qi G w sz (fun r w' => r = X.1 ∧ At13 G w' b X.2.1 changes errorAt failedAt isSaved v before saved past X.2.2 scratch best thenX thenY thenMet text line isLeft words wordAt textN hereP endP lineN isWrong isDoing ∧ mm_fr w w' b (b + 13))) 0 0 (va_A w sz) := by
  refine mm_headI [.ref b, .int x1, .int x2, .int x3] (by decide +kernel) rfl (Nat.le_of_ble_eq_true rfl) ?_
  intro p e s m args below meth c A Q hsz hC hM hret ls hl
  have hx := hC.1.1
  have hb := hC.1.2.1
  have hl : lv_has ls 4 [(0, .ref b), (1, .int x1), (2, .int x2), (3, .int x3)] := hl
  have hF : mm_fr w w b (b + 13) := mm_fr.rf
  rw [f_X13_wayLengthByRounds] at hf
  refine lv_aload_n hx hb dX13_wayLengthByRounds_0 rfl (lv_at hl 0 rfl) ?_
  refine lv_iload_n hx hb dX13_wayLengthByRounds_1 rfl (lv_at hl 1 rfl) ?_
  refine lv_iload_n hx hb dX13_wayLengthByRounds_2 rfl (lv_at hl 2 rfl) ?_
  refine lv_iload_n hx hb dX13_wayLengthByRounds_3 rfl (lv_at hl 3 rfl) ?_
  refine lv_iconst (v := 0) hx hb dX13_wayLengthByRounds_4 (by decide) ?_
  obtain ⟨q5, hq5, hf⟩ := mm_bd hf
  refine mm_Vi (rest := []) hC hM (c_X13_way l hq5 hp_this) q8_121 q1_12 ykX13_way q8_118 q8_120 qp_e8ef5fbb hp_this.1 rfl ⟨rfl, rfl⟩ ⟨Nat.le_of_ble_eq_true rfl, Nat.le_of_ble_eq_true rfl⟩ rfl hl.1 rfl (Nat.le_of_ble_eq_true rfl) dX13_wayLengthByRounds_5 ⟨Nat.le_of_ble_eq_true rfl, Nat.le_of_ble_eq_true rfl⟩ (fun r w5 H locs hM hw => ?_)
  obtain ⟨hr, hn_this, hfr⟩ := hw
  rw [hr]
  have hp_this := hn_this
  have hF := hF.tr (hfr.wide (by omega) (by omega))
  cases hf
  exact hret hM dX13_wayLengthByRounds_8 rfl ⟨rfl, hp_this, hF⟩
def f_X13_wayCost (K : Nat) (v : Nat → Int32) (far : Nat → Int32) (x1 : Int32) (x2 : Int32) (x3 : Int32) : Option (Int32 × Int32 × (Nat → Int32)) := (f_X13_way K v far x1 x2 x3 1).bind fun q5 => some (q5.1, q5.2.1, q5.2.2)
set_option maxHeartbeats 4000000 in
set_option maxRecDepth 100000 in
theorem c_X13_wayCost (l : Launch) {G : mm_G} {K : Nat} {w : va_W} {sz : Nat} {b : Nat} {thrown : Int32} {changes : Int32} {errorAt : Int32} {failedAt : Int32} {isSaved : Int32} {v : Nat → Int32} {before : Nat → Int32} {saved : Nat → Int32} {past : Nat → Int32} {far : Nat → Int32} {scratch : Nat → Int32} {best : Nat → Int32} {thenX : Int32} {thenY : Int32} {thenMet : Int32} {text : Nat → Int32} {line : Nat → Int32} {isLeft : Nat → Int32} {words : Nat → Int32} {wordAt : Nat → Int32} {textN : Int32} {hereP : Int32} {endP : Int32} {lineN : Int32} {isWrong : Int32} {isDoing : Int32} {x1 : Int32} {x2 : Int32} {x3 : Int32} {X : Int32 × Int32 × (Nat → Int32)} (hf : f_X13_wayCost K v far x1 x2 x3 = some X) (hp_this : At13 G w b thrown changes errorAt failedAt isSaved v before saved past far scratch best thenX thenY thenMet text line isLeft words wordAt textN hereP endP lineN isWrong isDoing) : Met l yX13_wayCost (Cond.code yX13_wayCost cX13_wayCost 4 (some .int) :: gAll) ({ frames := 5, cells := 0, slots := 0, locals := 117 }) (va_Pc [.ref b, .int x1, .int x2, .int x3] (mm_Pre G w sz)) (mm_Qi G w sz (fun r w' => r = X.1 ∧ At13 G w' b X.2.1 changes errorAt failedAt isSaved v before saved past X.2.2 scratch best thenX thenY thenMet text line isLeft words wordAt textN hereP endP lineN isWrong isDoing ∧ mm_fr w w' b (b + 13))) 0 0 (va_A w sz) := by
  refine mm_headI [.ref b, .int x1, .int x2, .int x3] (by decide +kernel) rfl (Nat.le_of_ble_eq_true rfl) ?_
  intro p e s m args below meth c A Q hsz hC hM hret ls hl
  have hx := hC.1.1
  have hb := hC.1.2.1
  have hl : lv_has ls 4 [(0, .ref b), (1, .int x1), (2, .int x2), (3, .int x3)] := hl
  have hF : mm_fr w w b (b + 13) := mm_fr.rf
  rw [f_X13_wayCost] at hf
  refine lv_aload_n hx hb dX13_wayCost_0 rfl (lv_at hl 0 rfl) ?_
  refine lv_iload_n hx hb dX13_wayCost_1 rfl (lv_at hl 1 rfl) ?_
  refine lv_iload_n hx hb dX13_wayCost_2 rfl (lv_at hl 2 rfl) ?_
  refine lv_iload_n hx hb dX13_wayCost_3 rfl (lv_at hl 3 rfl) ?_
  refine lv_iconst (v := 1) hx hb dX13_wayCost_4 (by decide) ?_
  obtain ⟨q5, hq5, hf⟩ := mm_bd hf
  refine mm_Vi (rest := []) hC hM (c_X13_way l hq5 hp_this) q8_121 q1_12 ykX13_way q8_118 q8_120 qp_e8ef5fbb hp_this.1 rfl ⟨rfl, rfl⟩ ⟨Nat.le_of_ble_eq_true rfl, Nat.le_of_ble_eq_true rfl⟩ rfl hl.1 rfl (Nat.le_of_ble_eq_true rfl) dX13_wayCost_5 ⟨Nat.le_of_ble_eq_true rfl, Nat.le_of_ble_eq_true rfl⟩ (fun r w5 H locs hM hw => ?_)
  obtain ⟨hr, hn_this, hfr⟩ := hw
  rw [hr]
  have hp_this := hn_this
  have hF := hF.tr (hfr.wide (by omega) (by omega))
  cases hf
  exact hret hM dX13_wayCost_8 rfl ⟨rfl, hp_this, hF⟩
def f_X13_wayCostByRounds (K : Nat) (v : Nat → Int32) (far : Nat → Int32) (x1 : Int32) (x2 : Int32) (x3 : Int32) : Option (Int32 × Int32 × (Nat → Int32)) := (f_X13_way K v far x1 x2 x3 1).bind fun q5 => some (q5.1, q5.2.1, q5.2.2)
set_option maxHeartbeats 4000000 in
set_option maxRecDepth 100000 in
theorem c_X13_wayCostByRounds (l : Launch) {G : mm_G} {K : Nat} {w : va_W} {sz : Nat} {b : Nat} {thrown : Int32} {changes : Int32} {errorAt : Int32} {failedAt : Int32} {isSaved : Int32} {v : Nat → Int32} {before : Nat → Int32} {saved : Nat → Int32} {past : Nat → Int32} {far : Nat → Int32} {scratch : Nat → Int32} {best : Nat → Int32} {thenX : Int32} {thenY : Int32} {thenMet : Int32} {text : Nat → Int32} {line : Nat → Int32} {isLeft : Nat → Int32} {words : Nat → Int32} {wordAt : Nat → Int32} {textN : Int32} {hereP : Int32} {endP : Int32} {lineN : Int32} {isWrong : Int32} {isDoing : Int32} {x1 : Int32} {x2 : Int32} {x3 : Int32} {X : Int32 × Int32 × (Nat → Int32)} (hf : f_X13_wayCostByRounds K v far x1 x2 x3 = some X) (hp_this : At13 G w b thrown changes errorAt failedAt isSaved v before saved past far scratch best thenX thenY thenMet text line isLeft words wordAt textN hereP endP lineN isWrong isDoing) : Met l yX13_wayCostByRounds (Cond.code yX13_wayCostByRounds cX13_wayCostByRounds 4 (some .int) :: gAll) ({ frames := 5, cells := 0, slots := 0, locals := 117 }) (va_Pc [.ref b, .int x1, .int x2, .int x3] (mm_Pre G w sz)) (mm_Qi G w sz (fun r w' => r = X.1 ∧ At13 G w' b X.2.1 changes errorAt failedAt isSaved v before saved past X.2.2 scratch best thenX thenY thenMet text line isLeft words wordAt textN hereP endP lineN isWrong isDoing ∧ mm_fr w w' b (b + 13))) 0 0 (va_A w sz) := by
  refine mm_headI [.ref b, .int x1, .int x2, .int x3] (by decide +kernel) rfl (Nat.le_of_ble_eq_true rfl) ?_
  intro p e s m args below meth c A Q hsz hC hM hret ls hl
  have hx := hC.1.1
  have hb := hC.1.2.1
  have hl : lv_has ls 4 [(0, .ref b), (1, .int x1), (2, .int x2), (3, .int x3)] := hl
  have hF : mm_fr w w b (b + 13) := mm_fr.rf
  rw [f_X13_wayCostByRounds] at hf
  refine lv_aload_n hx hb dX13_wayCostByRounds_0 rfl (lv_at hl 0 rfl) ?_
  refine lv_iload_n hx hb dX13_wayCostByRounds_1 rfl (lv_at hl 1 rfl) ?_
  refine lv_iload_n hx hb dX13_wayCostByRounds_2 rfl (lv_at hl 2 rfl) ?_
  refine lv_iload_n hx hb dX13_wayCostByRounds_3 rfl (lv_at hl 3 rfl) ?_
  refine lv_iconst (v := 1) hx hb dX13_wayCostByRounds_4 (by decide) ?_
  obtain ⟨q5, hq5, hf⟩ := mm_bd hf
  refine mm_Vi (rest := []) hC hM (c_X13_way l hq5 hp_this) q8_121 q1_12 ykX13_way q8_118 q8_120 qp_e8ef5fbb hp_this.1 rfl ⟨rfl, rfl⟩ ⟨Nat.le_of_ble_eq_true rfl, Nat.le_of_ble_eq_true rfl⟩ rfl hl.1 rfl (Nat.le_of_ble_eq_true rfl) dX13_wayCostByRounds_5 ⟨Nat.le_of_ble_eq_true rfl, Nat.le_of_ble_eq_true rfl⟩ (fun r w5 H locs hM hw => ?_)
  obtain ⟨hr, hn_this, hfr⟩ := hw
  rw [hr]
  have hp_this := hn_this
  have hF := hF.tr (hfr.wide (by omega) (by omega))
  cases hf
  exact hret hM dX13_wayCostByRounds_8 rfl ⟨rfl, hp_this, hF⟩
def f_X13_breakingEffort (K : Nat) (v : Nat → Int32) (far : Nat → Int32) (x1 : Int32) (x2 : Int32) (x3 : Int32) : Option (Int32 × Int32 × (Nat → Int32)) := (f_X13_way K v far x1 x2 x3 2).bind fun q5 => some (q5.1, q5.2.1, q5.2.2)
set_option maxHeartbeats 4000000 in
set_option maxRecDepth 100000 in
theorem c_X13_breakingEffort (l : Launch) {G : mm_G} {K : Nat} {w : va_W} {sz : Nat} {b : Nat} {thrown : Int32} {changes : Int32} {errorAt : Int32} {failedAt : Int32} {isSaved : Int32} {v : Nat → Int32} {before : Nat → Int32} {saved : Nat → Int32} {past : Nat → Int32} {far : Nat → Int32} {scratch : Nat → Int32} {best : Nat → Int32} {thenX : Int32} {thenY : Int32} {thenMet : Int32} {text : Nat → Int32} {line : Nat → Int32} {isLeft : Nat → Int32} {words : Nat → Int32} {wordAt : Nat → Int32} {textN : Int32} {hereP : Int32} {endP : Int32} {lineN : Int32} {isWrong : Int32} {isDoing : Int32} {x1 : Int32} {x2 : Int32} {x3 : Int32} {X : Int32 × Int32 × (Nat → Int32)} (hf : f_X13_breakingEffort K v far x1 x2 x3 = some X) (hp_this : At13 G w b thrown changes errorAt failedAt isSaved v before saved past far scratch best thenX thenY thenMet text line isLeft words wordAt textN hereP endP lineN isWrong isDoing) : Met l yX13_breakingEffort (Cond.code yX13_breakingEffort cX13_breakingEffort 4 (some .int) :: gAll) ({ frames := 5, cells := 0, slots := 0, locals := 117 }) (va_Pc [.ref b, .int x1, .int x2, .int x3] (mm_Pre G w sz)) (mm_Qi G w sz (fun r w' => r = X.1 ∧ At13 G w' b X.2.1 changes errorAt failedAt isSaved v before saved past X.2.2 scratch best thenX thenY thenMet text line isLeft words wordAt textN hereP endP lineN isWrong isDoing ∧ mm_fr w w' b (b + 13))) 0 0 (va_A w sz) := by
  refine mm_headI [.ref b, .int x1, .int x2, .int x3] (by decide +kernel) rfl (Nat.le_of_ble_eq_true rfl) ?_
  intro p e s m args below meth c A Q hsz hC hM hret ls hl
  have hx := hC.1.1
  have hb := hC.1.2.1
  have hl : lv_has ls 4 [(0, .ref b), (1, .int x1), (2, .int x2), (3, .int x3)] := hl
  have hF : mm_fr w w b (b + 13) := mm_fr.rf
  rw [f_X13_breakingEffort] at hf
  refine lv_aload_n hx hb dX13_breakingEffort_0 rfl (lv_at hl 0 rfl) ?_
  refine lv_iload_n hx hb dX13_breakingEffort_1 rfl (lv_at hl 1 rfl) ?_
  refine lv_iload_n hx hb dX13_breakingEffort_2 rfl (lv_at hl 2 rfl) ?_
  refine lv_iload_n hx hb dX13_breakingEffort_3 rfl (lv_at hl 3 rfl) ?_
  refine lv_iconst (v := 2) hx hb dX13_breakingEffort_4 (by decide) ?_
  obtain ⟨q5, hq5, hf⟩ := mm_bd hf
  refine mm_Vi (rest := []) hC hM (c_X13_way l hq5 hp_this) q8_121 q1_12 ykX13_way q8_118 q8_120 qp_e8ef5fbb hp_this.1 rfl ⟨rfl, rfl⟩ ⟨Nat.le_of_ble_eq_true rfl, Nat.le_of_ble_eq_true rfl⟩ rfl hl.1 rfl (Nat.le_of_ble_eq_true rfl) dX13_breakingEffort_5 ⟨Nat.le_of_ble_eq_true rfl, Nat.le_of_ble_eq_true rfl⟩ (fun r w5 H locs hM hw => ?_)
  obtain ⟨hr, hn_this, hfr⟩ := hw
  rw [hr]
  have hp_this := hn_this
  have hF := hF.tr (hfr.wide (by omega) (by omega))
  cases hf
  exact hret hM dX13_breakingEffort_8 rfl ⟨rfl, hp_this, hF⟩
def f_X13_nearer_L24 (far : Nat → Int32) (x1 : Int32) (x2 : Int32) (x3 : Int32) : Nat → (Int32) → (Int32) → (Int32) → Option (Int32 × Int32 × Int32)
  | 0, _, _, _ => none
  | n + 1, x4, thenX, thenY => if 4 ≤ x4 then some ((-1), thenX, thenY) else (f_X13_steps x1 x2 x4).bind fun q43 => if q43.1 = 0 then f_X13_nearer_L24 far x1 x2 x3 n (x4 + 1) q43.2.1 q43.2.2 else (f_X13_cell q43.2.1 q43.2.2).bind fun q61 => mm_g (mm_ck q61 81) (if (far q61.toNatClampNeg) = (x3 - 1) then some (x4, q43.2.1, q43.2.2) else f_X13_nearer_L24 far x1 x2 x3 n (x4 + 1) q43.2.1 q43.2.2)
def f_X13_nearer (K : Nat) (far : Nat → Int32) (thenX : Int32) (thenY : Int32) : Option (Int32 × Int32 × Int32) := (f_X13_cell thenX thenY).bind fun q16 => mm_g (mm_ck q16 81) (f_X13_nearer_L24 far thenX thenY (far q16.toNatClampNeg) K 0 thenX thenY)
set_option maxHeartbeats 4000000 in
set_option maxRecDepth 100000 in
theorem c_X13_nearer (l : Launch) {G : mm_G} {K : Nat} {w : va_W} {sz : Nat} {b : Nat} {thrown : Int32} {changes : Int32} {errorAt : Int32} {failedAt : Int32} {isSaved : Int32} {v : Nat → Int32} {before : Nat → Int32} {saved : Nat → Int32} {past : Nat → Int32} {far : Nat → Int32} {scratch : Nat → Int32} {best : Nat → Int32} {thenX : Int32} {thenY : Int32} {thenMet : Int32} {text : Nat → Int32} {line : Nat → Int32} {isLeft : Nat → Int32} {words : Nat → Int32} {wordAt : Nat → Int32} {textN : Int32} {hereP : Int32} {endP : Int32} {lineN : Int32} {isWrong : Int32} {isDoing : Int32} {X : Int32 × Int32 × Int32} (hf : f_X13_nearer K far thenX thenY = some X) (hp_this : At13 G w b thrown changes errorAt failedAt isSaved v before saved past far scratch best thenX thenY thenMet text line isLeft words wordAt textN hereP endP lineN isWrong isDoing) : Met l yX13_nearer (Cond.code yX13_nearer cX13_nearer 5 (some .int) :: gAll) ({ frames := 3, cells := 0, slots := 0, locals := 64 }) (va_Pc [.ref b] (mm_Pre G w sz)) (mm_Qi G w sz (fun r w' => r = X.1 ∧ At13 G w' b thrown changes errorAt failedAt isSaved v before saved past far scratch best X.2.1 X.2.2 thenMet text line isLeft words wordAt textN hereP endP lineN isWrong isDoing ∧ mm_fr w w' b (b + 13))) 0 0 (va_A w sz) := by
  refine mm_headI [.ref b] (by decide +kernel) rfl (Nat.le_of_ble_eq_true rfl) ?_
  intro p e s m args below meth c A Q hsz hC hM hret ls hl
  have hx := hC.1.1
  have hb := hC.1.2.1
  have hl : lv_has ls 5 [(0, .ref b)] := hl
  have hF : mm_fr w w b (b + 13) := mm_fr.rf
  rw [f_X13_nearer] at hf
  refine lv_aload_n hx hb dX13_nearer_0 rfl (lv_at hl 0 rfl) ?_
  refine mm_get hC hM (k := 12) hp_this.1 rfl inAX13 (by decide) q7_17 rfl dX13_nearer_1 ?_
  refine lv_istore_n (lv' := [(1, .int thenX), (0, .ref b)]) hx hb dX13_nearer_4 rfl hl (by decide) rfl (fun ls hl => ?_)
  refine lv_aload_n hx hb dX13_nearer_5 rfl (lv_at hl 1 rfl) ?_
  refine mm_get hC hM (k := 13) hp_this.1 rfl inAX13 (by decide) q7_18 rfl dX13_nearer_6 ?_
  refine lv_istore_n (lv' := [(2, .int thenY), (1, .int thenX), (0, .ref b)]) hx hb dX13_nearer_9 rfl hl (by decide) rfl (fun ls hl => ?_)
  refine lv_aload_n hx hb dX13_nearer_10 rfl (lv_at hl 2 rfl) ?_
  refine mm_get hC hM (k := 9) hp_this.1 rfl inAX13 (by decide) q7_14 rfl dX13_nearer_11 ?_
  refine lv_iload_n hx hb dX13_nearer_14 rfl (lv_at hl 1 rfl) ?_
  refine lv_iload_n hx hb dX13_nearer_15 rfl (lv_at hl 0 rfl) ?_
  obtain ⟨q16, hq16, hf⟩ := mm_bd hf
  refine mm_Si (rest := [.ref (b + 5)]) hC hM (c_X13_cell l hq16) q7_115 q1_12 ykX13_cell q7_113 q7_114 ⟨rfl, rfl⟩ ⟨Nat.le_of_ble_eq_true rfl, Nat.le_of_ble_eq_true rfl⟩ rfl hl.1 rfl (Nat.le_of_ble_eq_true rfl) dX13_nearer_16 ⟨Nat.le_of_ble_eq_true rfl, Nat.le_of_ble_eq_true rfl⟩ (fun r w16 H locs hM hw => ?_)
  obtain ⟨hr, hw⟩ := hw
  rw [hr]
  rw [hw] at hM
  obtain ⟨hg19, hf⟩ := mm_gd hf
  refine mm_iald hC hM (hp_this.2.2.2.2.2.1) hg19 dX13_nearer_19 ?_
  refine lv_istore_n (lv' := [(3, .int (far q16.toNatClampNeg)), (2, .int thenY), (1, .int thenX), (0, .ref b)]) hx hb dX13_nearer_20 rfl hl (by decide) rfl (fun ls hl => ?_)
  refine lv_iconst (v := 0) hx hb dX13_nearer_21 (by decide) ?_
  refine lv_istore (lv' := [(4, .int 0), (3, .int (far q16.toNatClampNeg)), (2, .int thenY), (1, .int thenX), (0, .ref b)]) hx hb dX13_nearer_22 hl (by decide) rfl (fun ls hl => ?_)
  have L24 : ∀ (n : Nat) (L24_x4 : Int32) (L24_thenX : Int32) (L24_thenY : Int32), f_X13_nearer_L24 far thenX thenY (far q16.toNatClampNeg) n L24_x4 L24_thenX L24_thenY = some X → ∀ (L24_w : va_W) (H : Heap) (locs : List Loc), mm_S G A s.heap L24_w H locs → At13 G L24_w b thrown changes errorAt failedAt isSaved v before saved past far scratch best L24_thenX L24_thenY thenMet text line isLeft words wordAt textN hereP endP lineN isWrong isDoing → mm_fr w L24_w b (b + 13) → ∀ (ls : Array Slot), lv_has ls 5 [(0, .ref b), (1, .int thenX), (2, .int thenY), (3, .int (far q16.toNatClampNeg)), (4, .int L24_x4)] → W p l e ({ frames := 3, cells := 0, slots := 0, locals := 64 } : Room) s m args below meth c H locs 0 0 Q (F0 m 24 ls []) := by
    intro n
    induction n with
    | zero => intro L24_x4 L24_thenX L24_thenY hf; cases hf
    | succ n ih =>
      intro L24_x4 L24_thenX L24_thenY hf L24_w H locs hM hp_this hF ls hl
      rw [f_X13_nearer_L24] at hf
      refine lv_iload hx hb dX13_nearer_24 (lv_at hl 4 rfl) ?_
      refine lv_iconst (v := 4) hx hb dX13_nearer_26 (by decide) ?_
      refine lv_icmp_ge (tgt := 80) hx hb dX13_nearer_27 (by decide) (fun hcd => ?_) (fun hcd => ?_)
      · rw [if_pos hcd] at hf
        refine lv_iconst (v := (-1)) hx hb dX13_nearer_80 (by decide) ?_
        cases hf
        exact hret hM dX13_nearer_81 rfl ⟨rfl, hp_this, hF⟩
      · rw [if_neg hcd] at hf
        refine lv_aload_n hx hb dX13_nearer_30 rfl (lv_at hl 0 rfl) ?_
        refine lv_iload_n hx hb dX13_nearer_31 rfl (lv_at hl 1 rfl) ?_
        refine mm_put hC hM (k := 12) tyX13 hp_this.1 rfl inAX13 tyX13_ok nmX13 (by decide) q7_17 rfl rfl rfl rfl (Nat.le_of_ble_eq_true rfl) dX13_nearer_32 (fun w32 H locs hM hm => ?_)
        have hp_this : At13 G w32 b thrown changes errorAt failedAt isSaved v before saved past far scratch best thenX L24_thenY thenMet text line isLeft words wordAt textN hereP endP lineN isWrong isDoing := ⟨hm.1, hm.keep (hp_this.2.1) (by omega), hm.keep (hp_this.2.2.1) (by omega), hm.keep (hp_this.2.2.2.1) (by omega), hm.keep (hp_this.2.2.2.2.1) (by omega), hm.keep (hp_this.2.2.2.2.2.1) (by omega), hm.keep (hp_this.2.2.2.2.2.2.1) (by omega), hm.keep (hp_this.2.2.2.2.2.2.2.1) (by omega), hm.keep (hp_this.2.2.2.2.2.2.2.2.1) (by omega), hm.keep (hp_this.2.2.2.2.2.2.2.2.2.1) (by omega), hm.keep (hp_this.2.2.2.2.2.2.2.2.2.2.1) (by omega), hm.keep (hp_this.2.2.2.2.2.2.2.2.2.2.2.1) (by omega), hm.keep (hp_this.2.2.2.2.2.2.2.2.2.2.2.2) (by omega)⟩
        have hF := hF.tr (hm.fr (by omega) (by omega))
        refine lv_aload_n hx hb dX13_nearer_35 rfl (lv_at hl 0 rfl) ?_
        refine lv_iload_n hx hb dX13_nearer_36 rfl (lv_at hl 2 rfl) ?_
        refine mm_put hC hM (k := 13) tyX13 hp_this.1 rfl inAX13 tyX13_ok nmX13 (by decide) q7_18 rfl rfl rfl rfl (Nat.le_of_ble_eq_true rfl) dX13_nearer_37 (fun w37 H locs hM hm => ?_)
        have hp_this : At13 G w37 b thrown changes errorAt failedAt isSaved v before saved past far scratch best thenX thenY thenMet text line isLeft words wordAt textN hereP endP lineN isWrong isDoing := ⟨hm.1, hm.keep (hp_this.2.1) (by omega), hm.keep (hp_this.2.2.1) (by omega), hm.keep (hp_this.2.2.2.1) (by omega), hm.keep (hp_this.2.2.2.2.1) (by omega), hm.keep (hp_this.2.2.2.2.2.1) (by omega), hm.keep (hp_this.2.2.2.2.2.2.1) (by omega), hm.keep (hp_this.2.2.2.2.2.2.2.1) (by omega), hm.keep (hp_this.2.2.2.2.2.2.2.2.1) (by omega), hm.keep (hp_this.2.2.2.2.2.2.2.2.2.1) (by omega), hm.keep (hp_this.2.2.2.2.2.2.2.2.2.2.1) (by omega), hm.keep (hp_this.2.2.2.2.2.2.2.2.2.2.2.1) (by omega), hm.keep (hp_this.2.2.2.2.2.2.2.2.2.2.2.2) (by omega)⟩
        have hF := hF.tr (hm.fr (by omega) (by omega))
        refine lv_aload_n hx hb dX13_nearer_40 rfl (lv_at hl 0 rfl) ?_
        refine lv_iload hx hb dX13_nearer_41 (lv_at hl 4 rfl) ?_
        obtain ⟨q43, hq43, hf⟩ := mm_bd hf
        refine mm_Vi (rest := []) hC hM (c_X13_steps l hq43 hp_this) q8_109 q1_12 ykX13_steps q8_106 q8_108 qp_80cbccb6 hp_this.1 rfl ⟨rfl, rfl⟩ ⟨Nat.le_of_ble_eq_true rfl, Nat.le_of_ble_eq_true rfl⟩ rfl hl.1 rfl (Nat.le_of_ble_eq_true rfl) dX13_nearer_43 ⟨Nat.le_of_ble_eq_true rfl, Nat.le_of_ble_eq_true rfl⟩ (fun r w43 H locs hM hw => ?_)
        obtain ⟨hr, hn_this, hfr⟩ := hw
        rw [hr]
        have hp_this := hn_this
        have hF := hF.tr (hfr.wide (by omega) (by omega))
        refine lv_if_eq (tgt := 74) hx hb dX13_nearer_46 (by decide) (fun hcd => ?_) (fun hcd => ?_)
        · rw [if_pos hcd] at hf
          refine lv_iinc (v := (L24_x4 + 1)) (lv' := [(4, .int (L24_x4 + 1)), (0, .ref b), (1, .int thenX), (2, .int thenY), (3, .int (far q16.toNatClampNeg))]) hx hb dX13_nearer_74 hl (k := 4) rfl rfl (by decide) rfl (fun ls hl => ?_)
          refine lv_goto (tgt := 24) hx hb dX13_nearer_77 (by decide) ?_
          exact ih _ _ _ hf _ _ _ hM hp_this hF _ (lv_sub hl [1, 2, 3, 4, 0] rfl)
        · rw [if_neg hcd] at hf
          refine lv_aload_n hx hb dX13_nearer_49 rfl (lv_at hl 0 rfl) ?_
          refine mm_get hC hM (k := 9) hp_this.1 rfl inAX13 (by decide) q7_14 rfl dX13_nearer_50 ?_
          refine lv_aload_n hx hb dX13_nearer_53 rfl (lv_at hl 0 rfl) ?_
          refine mm_get hC hM (k := 12) hp_this.1 rfl inAX13 (by decide) q7_17 rfl dX13_nearer_54 ?_
          refine lv_aload_n hx hb dX13_nearer_57 rfl (lv_at hl 0 rfl) ?_
          refine mm_get hC hM (k := 13) hp_this.1 rfl inAX13 (by decide) q7_18 rfl dX13_nearer_58 ?_
          obtain ⟨q61, hq61, hf⟩ := mm_bd hf
          refine mm_Si (rest := [.ref (b + 5)]) hC hM (c_X13_cell l hq61) q7_115 q1_12 ykX13_cell q7_113 q7_114 ⟨rfl, rfl⟩ ⟨Nat.le_of_ble_eq_true rfl, Nat.le_of_ble_eq_true rfl⟩ rfl hl.1 rfl (Nat.le_of_ble_eq_true rfl) dX13_nearer_61 ⟨Nat.le_of_ble_eq_true rfl, Nat.le_of_ble_eq_true rfl⟩ (fun r w61 H locs hM hw => ?_)
          obtain ⟨hr, hw⟩ := hw
          rw [hr]
          rw [hw] at hM
          obtain ⟨hg64, hf⟩ := mm_gd hf
          refine mm_iald hC hM (hp_this.2.2.2.2.2.1) hg64 dX13_nearer_64 ?_
          refine lv_iload_n hx hb dX13_nearer_65 rfl (lv_at hl 3 rfl) ?_
          refine lv_iconst (v := 1) hx hb dX13_nearer_66 (by decide) ?_
          refine lv_isub hx hb dX13_nearer_67 ?_
          refine lv_icmp_ne (tgt := 74) hx hb dX13_nearer_68 (by decide) (fun hcd => ?_) (fun hcd => ?_)
          · rw [if_neg hcd] at hf
            refine lv_iinc (v := (L24_x4 + 1)) (lv' := [(4, .int (L24_x4 + 1)), (0, .ref b), (1, .int thenX), (2, .int thenY), (3, .int (far q16.toNatClampNeg))]) hx hb dX13_nearer_74 hl (k := 4) rfl rfl (by decide) rfl (fun ls hl => ?_)
            refine lv_goto (tgt := 24) hx hb dX13_nearer_77 (by decide) ?_
            exact ih _ _ _ hf _ _ _ hM hp_this hF _ (lv_sub hl [1, 2, 3, 4, 0] rfl)
          · rw [if_pos hcd] at hf
            refine lv_iload hx hb dX13_nearer_71 (lv_at hl 4 rfl) ?_
            cases hf
            exact hret hM dX13_nearer_73 rfl ⟨rfl, hp_this, hF⟩
  exact L24 K _ _ _ hf _ _ _ hM hp_this hF _ (lv_sub hl [4, 3, 2, 1, 0] rfl)
def f_X13_plans_L127 (K : Nat) (far : Nat → Int32) (x5 : Int32) : Nat → (Int32) → (Nat → Int32) → (Int32) → (Int32) → Option ((Nat → Int32) × Int32 × Int32)
  | 0, _, _, _, _ => none
  | n + 1, x6, scratch, thenX, thenY => if x5 ≤ x6 then some (scratch, thenX, thenY) else (f_X13_nearer K far thenX thenY).bind fun q141 => mm_g (mm_ck x6 60) (f_X13_plans_L127 K far x5 n (x6 + 1) (upd scratch x6.toNatClampNeg q141.1) q141.2.1 q141.2.2)
def f_X13_plans (K : Nat) (thrown : Int32) (v : Nat → Int32) (far : Nat → Int32) (scratch : Nat → Int32) (thenX : Int32) (thenY : Int32) (x1 : Int32) (x2 : Int32) (x3 : Int32) (x4 : Int32) : Option (Int32 × Int32 × (Nat → Int32) × (Nat → Int32) × (Nat → Int32) × Int32 × Int32) := if 0 ≤ x1 then (f_X13_isCell x2 x3).bind fun q12 => if q12 = 0 then (f_X13_fail 2).bind fun q20 => some (q20.1, q20.2, v, far, scratch, thenX, thenY) else (f_X13_where v x1).bind fun q27 => (f_X13_reaches K v far q27 0).bind fun q31 => (f_X13_cell x2 x3).bind fun q40 => mm_g (mm_ck q40 81) (if (q31 q40.toNatClampNeg) = 100000 then (f_X13_fail 1).bind fun q55 => some (q55.1, q55.2, v, q31, scratch, thenX, thenY) else (f_X13_isPlan x4).bind fun q61 => if q61 = 0 then (f_X13_fail 2).bind fun q69 => some (q69.1, q69.2, v, q31, scratch, thenX, thenY) else if (q31 q40.toNatClampNeg) ≤ 20 then (f_X13_cell x2 x3).bind fun q89 => (f_X13_reaches K v q31 q89 0).bind fun q93 => (f_X13_of x1 1).bind fun q103 => mm_g (mm_ck q103 238) ((f_X13_of x1 2).bind fun q117 => mm_g (mm_ck q117 238) ((f_X13_plans_L127 K q93 (q31 q40.toNatClampNeg) K 0 scratch (v q103.toNatClampNeg) (v q117.toNatClampNeg)).bind fun q127 => (f_X13_becomes K v q127.1 x4 (q31 q40.toNatClampNeg)).bind fun q156 => some (q156.1, thrown, q156.2, q93, q127.1, q127.2.1, q127.2.2))) else (f_X13_fail 3).bind fun q82 => some (q82.1, q82.2, v, q31, scratch, thenX, thenY)) else (f_X13_fail 1).bind fun q6 => some (q6.1, q6.2, v, far, scratch, thenX, thenY)
set_option maxHeartbeats 4000000 in
set_option maxRecDepth 100000 in
theorem c_X13_plans (l : Launch) {G : mm_G} {K : Nat} {w : va_W} {sz : Nat} {b : Nat} {thrown : Int32} {changes : Int32} {errorAt : Int32} {failedAt : Int32} {isSaved : Int32} {v : Nat → Int32} {before : Nat → Int32} {saved : Nat → Int32} {past : Nat → Int32} {far : Nat → Int32} {scratch : Nat → Int32} {best : Nat → Int32} {thenX : Int32} {thenY : Int32} {thenMet : Int32} {text : Nat → Int32} {line : Nat → Int32} {isLeft : Nat → Int32} {words : Nat → Int32} {wordAt : Nat → Int32} {textN : Int32} {hereP : Int32} {endP : Int32} {lineN : Int32} {isWrong : Int32} {isDoing : Int32} {x1 : Int32} {x2 : Int32} {x3 : Int32} {x4 : Int32} {X : Int32 × Int32 × (Nat → Int32) × (Nat → Int32) × (Nat → Int32) × Int32 × Int32} (hf : f_X13_plans K thrown v far scratch thenX thenY x1 x2 x3 x4 = some X) (hp_this : At13 G w b thrown changes errorAt failedAt isSaved v before saved past far scratch best thenX thenY thenMet text line isLeft words wordAt textN hereP endP lineN isWrong isDoing) : Met l yX13_plans (Cond.code yX13_plans cX13_plans 7 (some .int) :: gAll) ({ frames := 4, cells := 0, slots := 0, locals := 91 }) (va_Pc [.ref b, .int x1, .int x2, .int x3, .int x4] (mm_Pre G w sz)) (mm_Qi G w sz (fun r w' => r = X.1 ∧ At13 G w' b X.2.1 changes errorAt failedAt isSaved X.2.2.1 before saved past X.2.2.2.1 X.2.2.2.2.1 best X.2.2.2.2.2.1 X.2.2.2.2.2.2 thenMet text line isLeft words wordAt textN hereP endP lineN isWrong isDoing ∧ mm_fr w w' b (b + 13))) 0 0 (va_A w sz) := by
  refine mm_headI [.ref b, .int x1, .int x2, .int x3, .int x4] (by decide +kernel) rfl (Nat.le_of_ble_eq_true rfl) ?_
  intro p e s m args below meth c A Q hsz hC hM hret ls hl
  have hx := hC.1.1
  have hb := hC.1.2.1
  have hl : lv_has ls 7 [(0, .ref b), (1, .int x1), (2, .int x2), (3, .int x3), (4, .int x4)] := hl
  have hF : mm_fr w w b (b + 13) := mm_fr.rf
  rw [f_X13_plans] at hf
  refine lv_iload_n hx hb dX13_plans_0 rfl (lv_at hl 1 rfl) ?_
  refine lv_if_ge (tgt := 10) hx hb dX13_plans_1 (by decide) (fun hcd => ?_) (fun hcd => ?_)
  · rw [if_pos hcd] at hf
    refine lv_iload_n hx hb dX13_plans_10 rfl (lv_at hl 2 rfl) ?_
    refine lv_iload_n hx hb dX13_plans_11 rfl (lv_at hl 3 rfl) ?_
    obtain ⟨q12, hq12, hf⟩ := mm_bd hf
    refine mm_Si (rest := []) hC hM (c_X13_isCell l hq12) q7_105 q1_12 ykX13_isCell q7_103 q7_104 ⟨rfl, rfl⟩ ⟨Nat.le_of_ble_eq_true rfl, Nat.le_of_ble_eq_true rfl⟩ rfl hl.1 rfl (Nat.le_of_ble_eq_true rfl) dX13_plans_12 ⟨Nat.le_of_ble_eq_true rfl, Nat.le_of_ble_eq_true rfl⟩ (fun r w12 H locs hM hw => ?_)
    obtain ⟨hr, hw⟩ := hw
    rw [hr]
    rw [hw] at hM
    refine lv_if_ne (tgt := 24) hx hb dX13_plans_15 (by decide) (fun hcd => ?_) (fun hcd => ?_)
    · rw [if_neg hcd] at hf
      refine lv_aload_n hx hb dX13_plans_24 rfl (lv_at hl 0 rfl) ?_
      refine lv_aload_n hx hb dX13_plans_25 rfl (lv_at hl 0 rfl) ?_
      refine lv_iload_n hx hb dX13_plans_26 rfl (lv_at hl 1 rfl) ?_
      obtain ⟨q27, hq27, hf⟩ := mm_bd hf
      refine mm_Vi (rest := [.ref b]) hC hM (c_X13_where l hq27 hp_this) q7_123 q1_12 ykX13_where q7_120 q7_122 qp_3e96a34e hp_this.1 rfl ⟨rfl, rfl⟩ ⟨Nat.le_of_ble_eq_true rfl, Nat.le_of_ble_eq_true rfl⟩ rfl hl.1 rfl (Nat.le_of_ble_eq_true rfl) dX13_plans_27 ⟨Nat.le_of_ble_eq_true rfl, Nat.le_of_ble_eq_true rfl⟩ (fun r w27 H locs hM hw => ?_)
      obtain ⟨hr, hw⟩ := hw
      rw [hr]
      rw [hw] at hM
      refine lv_iconst (v := 0) hx hb dX13_plans_30 (by decide) ?_
      obtain ⟨q31, hq31, hf⟩ := mm_bd hf
      refine mm_Vv (rest := []) hC hM (c_X13_reaches l hq31 hp_this) q8_125 q1_12 ykX13_reaches q8_122 q8_124 qp_f09907d5 hp_this.1 rfl ⟨rfl, rfl⟩ ⟨Nat.le_of_ble_eq_true rfl, Nat.le_of_ble_eq_true rfl⟩ rfl hl.1 rfl (Nat.le_of_ble_eq_true rfl) dX13_plans_31 ⟨Nat.le_of_ble_eq_true rfl, Nat.le_of_ble_eq_true rfl⟩ (fun w31 H locs hM hw => ?_)
      obtain ⟨hn_this, hfr⟩ := hw
      have hp_this := hn_this
      have hF := hF.tr (hfr.wide (by omega) (by omega))
      refine lv_aload_n hx hb dX13_plans_34 rfl (lv_at hl 0 rfl) ?_
      refine mm_get hC hM (k := 9) hp_this.1 rfl inAX13 (by decide) q7_14 rfl dX13_plans_35 ?_
      refine lv_iload_n hx hb dX13_plans_38 rfl (lv_at hl 2 rfl) ?_
      refine lv_iload_n hx hb dX13_plans_39 rfl (lv_at hl 3 rfl) ?_
      obtain ⟨q40, hq40, hf⟩ := mm_bd hf
      refine mm_Si (rest := [.ref (b + 5)]) hC hM (c_X13_cell l hq40) q7_115 q1_12 ykX13_cell q7_113 q7_114 ⟨rfl, rfl⟩ ⟨Nat.le_of_ble_eq_true rfl, Nat.le_of_ble_eq_true rfl⟩ rfl hl.1 rfl (Nat.le_of_ble_eq_true rfl) dX13_plans_40 ⟨Nat.le_of_ble_eq_true rfl, Nat.le_of_ble_eq_true rfl⟩ (fun r w40 H locs hM hw => ?_)
      obtain ⟨hr, hw⟩ := hw
      rw [hr]
      rw [hw] at hM
      obtain ⟨hg43, hf⟩ := mm_gd hf
      refine mm_iald hC hM (hp_this.2.2.2.2.2.1) hg43 dX13_plans_43 ?_
      refine lv_istore (lv' := [(5, .int (q31 q40.toNatClampNeg)), (0, .ref b), (1, .int x1), (2, .int x2), (3, .int x3), (4, .int x4)]) hx hb dX13_plans_44 hl (by decide) rfl (fun ls hl => ?_)
      refine lv_iload hx hb dX13_plans_46 (lv_at hl 0 rfl) ?_
      refine lv_ldc hx hb hC.1.2.2.2.1 (hC.1.2.2.2.2 _ q8_126) dX13_plans_48 ?_
      refine lv_icmp_ne (tgt := 59) hx hb dX13_plans_50 (by decide) (fun hcd => ?_) (fun hcd => ?_)
      · rw [if_neg hcd] at hf
        refine lv_iload hx hb dX13_plans_59 (lv_at hl 5 rfl) ?_
        obtain ⟨q61, hq61, hf⟩ := mm_bd hf
        refine mm_Si (rest := []) hC hM (c_X13_isPlan l hq61) q8_28 q1_12 ykX13_isPlan q8_26 q8_27 ⟨rfl, rfl⟩ ⟨Nat.le_of_ble_eq_true rfl, Nat.le_of_ble_eq_true rfl⟩ rfl hl.1 rfl (Nat.le_of_ble_eq_true rfl) dX13_plans_61 ⟨Nat.le_of_ble_eq_true rfl, Nat.le_of_ble_eq_true rfl⟩ (fun r w61 H locs hM hw => ?_)
        obtain ⟨hr, hw⟩ := hw
        rw [hr]
        rw [hw] at hM
        refine lv_if_ne (tgt := 73) hx hb dX13_plans_64 (by decide) (fun hcd => ?_) (fun hcd => ?_)
        · rw [if_neg hcd] at hf
          refine lv_iload hx hb dX13_plans_73 (lv_at hl 0 rfl) ?_
          refine lv_bipush (v := 20) hx hb dX13_plans_75 (by decide) ?_
          refine lv_icmp_le (tgt := 86) hx hb dX13_plans_77 (by decide) (fun hcd => ?_) (fun hcd => ?_)
          · rw [if_pos hcd] at hf
            refine lv_aload_n hx hb dX13_plans_86 rfl (lv_at hl 1 rfl) ?_
            refine lv_iload_n hx hb dX13_plans_87 rfl (lv_at hl 3 rfl) ?_
            refine lv_iload_n hx hb dX13_plans_88 rfl (lv_at hl 4 rfl) ?_
            obtain ⟨q89, hq89, hf⟩ := mm_bd hf
            refine mm_Si (rest := [.ref b]) hC hM (c_X13_cell l hq89) q7_115 q1_12 ykX13_cell q7_113 q7_114 ⟨rfl, rfl⟩ ⟨Nat.le_of_ble_eq_true rfl, Nat.le_of_ble_eq_true rfl⟩ rfl hl.1 rfl (Nat.le_of_ble_eq_true rfl) dX13_plans_89 ⟨Nat.le_of_ble_eq_true rfl, Nat.le_of_ble_eq_true rfl⟩ (fun r w89 H locs hM hw => ?_)
            obtain ⟨hr, hw⟩ := hw
            rw [hr]
            rw [hw] at hM
            refine lv_iconst (v := 0) hx hb dX13_plans_92 (by decide) ?_
            obtain ⟨q93, hq93, hf⟩ := mm_bd hf
            refine mm_Vv (rest := []) hC hM (c_X13_reaches l hq93 hp_this) q8_125 q1_12 ykX13_reaches q8_122 q8_124 qp_f09907d5 hp_this.1 rfl ⟨rfl, rfl⟩ ⟨Nat.le_of_ble_eq_true rfl, Nat.le_of_ble_eq_true rfl⟩ rfl hl.1 rfl (Nat.le_of_ble_eq_true rfl) dX13_plans_93 ⟨Nat.le_of_ble_eq_true rfl, Nat.le_of_ble_eq_true rfl⟩ (fun w93 H locs hM hw => ?_)
            obtain ⟨hn_this, hfr⟩ := hw
            have hp_this := hn_this
            have hF := hF.tr (hfr.wide (by omega) (by omega))
            refine lv_aload_n hx hb dX13_plans_96 rfl (lv_at hl 1 rfl) ?_
            refine lv_aload_n hx hb dX13_plans_97 rfl (lv_at hl 1 rfl) ?_
            refine mm_get hC hM (k := 5) hp_this.1 rfl inAX13 (by decide) q7_10 rfl dX13_plans_98 ?_
            refine lv_iload_n hx hb dX13_plans_101 rfl (lv_at hl 2 rfl) ?_
            refine lv_iconst (v := 1) hx hb dX13_plans_102 (by decide) ?_
            obtain ⟨q103, hq103, hf⟩ := mm_bd hf
            refine mm_Si (rest := [.ref (b + 1), .ref b]) hC hM (c_X13_of l hq103) q7_126 q1_12 ykX13_of q7_124 q7_125 ⟨rfl, rfl⟩ ⟨Nat.le_of_ble_eq_true rfl, Nat.le_of_ble_eq_true rfl⟩ rfl hl.1 rfl (Nat.le_of_ble_eq_true rfl) dX13_plans_103 ⟨Nat.le_of_ble_eq_true rfl, Nat.le_of_ble_eq_true rfl⟩ (fun r w103 H locs hM hw => ?_)
            obtain ⟨hr, hw⟩ := hw
            rw [hr]
            rw [hw] at hM
            obtain ⟨hg106, hf⟩ := mm_gd hf
            refine mm_iald hC hM (hp_this.2.1) hg106 dX13_plans_106 ?_
            refine mm_put hC hM (k := 12) tyX13 hp_this.1 rfl inAX13 tyX13_ok nmX13 (by decide) q7_17 rfl rfl rfl rfl (Nat.le_of_ble_eq_true rfl) dX13_plans_107 (fun w107 H locs hM hm => ?_)
            have hp_this : At13 G w107 b thrown changes errorAt failedAt isSaved v before saved past q93 scratch best (v q103.toNatClampNeg) thenY thenMet text line isLeft words wordAt textN hereP endP lineN isWrong isDoing := ⟨hm.1, hm.keep (hp_this.2.1) (by omega), hm.keep (hp_this.2.2.1) (by omega), hm.keep (hp_this.2.2.2.1) (by omega), hm.keep (hp_this.2.2.2.2.1) (by omega), hm.keep (hp_this.2.2.2.2.2.1) (by omega), hm.keep (hp_this.2.2.2.2.2.2.1) (by omega), hm.keep (hp_this.2.2.2.2.2.2.2.1) (by omega), hm.keep (hp_this.2.2.2.2.2.2.2.2.1) (by omega), hm.keep (hp_this.2.2.2.2.2.2.2.2.2.1) (by omega), hm.keep (hp_this.2.2.2.2.2.2.2.2.2.2.1) (by omega), hm.keep (hp_this.2.2.2.2.2.2.2.2.2.2.2.1) (by omega), hm.keep (hp_this.2.2.2.2.2.2.2.2.2.2.2.2) (by omega)⟩
            have hF := hF.tr (hm.fr (by omega) (by omega))
            refine lv_aload_n hx hb dX13_plans_110 rfl (lv_at hl 1 rfl) ?_
            refine lv_aload_n hx hb dX13_plans_111 rfl (lv_at hl 1 rfl) ?_
            refine mm_get hC hM (k := 5) hp_this.1 rfl inAX13 (by decide) q7_10 rfl dX13_plans_112 ?_
            refine lv_iload_n hx hb dX13_plans_115 rfl (lv_at hl 2 rfl) ?_
            refine lv_iconst (v := 2) hx hb dX13_plans_116 (by decide) ?_
            obtain ⟨q117, hq117, hf⟩ := mm_bd hf
            refine mm_Si (rest := [.ref (b + 1), .ref b]) hC hM (c_X13_of l hq117) q7_126 q1_12 ykX13_of q7_124 q7_125 ⟨rfl, rfl⟩ ⟨Nat.le_of_ble_eq_true rfl, Nat.le_of_ble_eq_true rfl⟩ rfl hl.1 rfl (Nat.le_of_ble_eq_true rfl) dX13_plans_117 ⟨Nat.le_of_ble_eq_true rfl, Nat.le_of_ble_eq_true rfl⟩ (fun r w117 H locs hM hw => ?_)
            obtain ⟨hr, hw⟩ := hw
            rw [hr]
            rw [hw] at hM
            obtain ⟨hg120, hf⟩ := mm_gd hf
            refine mm_iald hC hM (hp_this.2.1) hg120 dX13_plans_120 ?_
            refine mm_put hC hM (k := 13) tyX13 hp_this.1 rfl inAX13 tyX13_ok nmX13 (by decide) q7_18 rfl rfl rfl rfl (Nat.le_of_ble_eq_true rfl) dX13_plans_121 (fun w121 H locs hM hm => ?_)
            have hp_this : At13 G w121 b thrown changes errorAt failedAt isSaved v before saved past q93 scratch best (v q103.toNatClampNeg) (v q117.toNatClampNeg) thenMet text line isLeft words wordAt textN hereP endP lineN isWrong isDoing := ⟨hm.1, hm.keep (hp_this.2.1) (by omega), hm.keep (hp_this.2.2.1) (by omega), hm.keep (hp_this.2.2.2.1) (by omega), hm.keep (hp_this.2.2.2.2.1) (by omega), hm.keep (hp_this.2.2.2.2.2.1) (by omega), hm.keep (hp_this.2.2.2.2.2.2.1) (by omega), hm.keep (hp_this.2.2.2.2.2.2.2.1) (by omega), hm.keep (hp_this.2.2.2.2.2.2.2.2.1) (by omega), hm.keep (hp_this.2.2.2.2.2.2.2.2.2.1) (by omega), hm.keep (hp_this.2.2.2.2.2.2.2.2.2.2.1) (by omega), hm.keep (hp_this.2.2.2.2.2.2.2.2.2.2.2.1) (by omega), hm.keep (hp_this.2.2.2.2.2.2.2.2.2.2.2.2) (by omega)⟩
            have hF := hF.tr (hm.fr (by omega) (by omega))
            refine lv_iconst (v := 0) hx hb dX13_plans_124 (by decide) ?_
            refine lv_istore (lv' := [(6, .int 0), (5, .int (q31 q40.toNatClampNeg)), (0, .ref b), (1, .int x1), (2, .int x2), (3, .int x3), (4, .int x4)]) hx hb dX13_plans_125 hl (by decide) rfl (fun ls hl => ?_)
            have L127 : ∀ (n : Nat) (L127_x6 : Int32) (L127_scratch : Nat → Int32) (L127_thenX : Int32) (L127_thenY : Int32) (X : (Nat → Int32) × Int32 × Int32), f_X13_plans_L127 K q93 (q31 q40.toNatClampNeg) n L127_x6 L127_scratch L127_thenX L127_thenY = some X → ∀ (L127_w : va_W) (H : Heap) (locs : List Loc), mm_S G A s.heap L127_w H locs → At13 G L127_w b thrown changes errorAt failedAt isSaved v before saved past q93 L127_scratch best L127_thenX L127_thenY thenMet text line isLeft words wordAt textN hereP endP lineN isWrong isDoing → mm_fr w L127_w b (b + 13) → ∀ (ls : Array Slot), lv_has ls 7 [(0, .ref b), (4, .int x4), (5, .int (q31 q40.toNatClampNeg)), (6, .int L127_x6)] → (∀ (w9 : va_W) (H : Heap) (locs : List Loc), mm_S G A s.heap w9 H locs → At13 G w9 b thrown changes errorAt failedAt isSaved v before saved past q93 X.1 best X.2.1 X.2.2 thenMet text line isLeft words wordAt textN hereP endP lineN isWrong isDoing → mm_fr w w9 b (b + 13) → ∀ (ls : Array Slot), lv_has ls 7 [(0, .ref b), (4, .int x4), (5, .int (q31 q40.toNatClampNeg))] → W p l e ({ frames := 4, cells := 0, slots := 0, locals := 91 } : Room) s m args below meth c H locs 0 0 Q (F0 m 151 ls [])) → W p l e ({ frames := 4, cells := 0, slots := 0, locals := 91 } : Room) s m args below meth c H locs 0 0 Q (F0 m 127 ls []) := by
              intro n
              induction n with
              | zero => intro L127_x6 L127_scratch L127_thenX L127_thenY X hf; cases hf
              | succ n ih =>
                intro L127_x6 L127_scratch L127_thenX L127_thenY X hf L127_w H locs hM hp_this hF ls hl hk
                rw [f_X13_plans_L127] at hf
                refine lv_iload hx hb dX13_plans_127 (lv_at hl 3 rfl) ?_
                refine lv_iload hx hb dX13_plans_129 (lv_at hl 2 rfl) ?_
                refine lv_icmp_ge (tgt := 151) hx hb dX13_plans_131 (by decide) (fun hcd => ?_) (fun hcd => ?_)
                · rw [if_pos hcd] at hf
                  cases hf
                  exact hk _ _ _ hM hp_this hF _ (lv_sub hl [0, 1, 2] rfl)
                · rw [if_neg hcd] at hf
                  refine lv_aload_n hx hb dX13_plans_134 rfl (lv_at hl 0 rfl) ?_
                  refine mm_get hC hM (k := 10) hp_this.1 rfl inAX13 (by decide) q7_15 rfl dX13_plans_135 ?_
                  refine lv_iload hx hb dX13_plans_138 (lv_at hl 3 rfl) ?_
                  refine lv_aload_n hx hb dX13_plans_140 rfl (lv_at hl 0 rfl) ?_
                  obtain ⟨q141, hq141, hf⟩ := mm_bd hf
                  refine mm_Vi (rest := [.int L127_x6, .ref (b + 6)]) hC hM (c_X13_nearer l hq141 hp_this) q8_166 q1_12 ykX13_nearer q8_163 q8_165 qp_2e066fd9 hp_this.1 rfl ⟨rfl, rfl⟩ ⟨Nat.le_of_ble_eq_true rfl, Nat.le_of_ble_eq_true rfl⟩ rfl hl.1 rfl (Nat.le_of_ble_eq_true rfl) dX13_plans_141 ⟨Nat.le_of_ble_eq_true rfl, Nat.le_of_ble_eq_true rfl⟩ (fun r w141 H locs hM hw => ?_)
                  obtain ⟨hr, hn_this, hfr⟩ := hw
                  rw [hr]
                  have hp_this := hn_this
                  have hF := hF.tr (hfr.wide (by omega) (by omega))
                  obtain ⟨hg144, hf⟩ := mm_gd hf
                  refine mm_iast hC hM (hp_this.2.2.2.2.2.2.1) hg144 dX13_plans_144 (fun w144 H locs hM hm => ?_)
                  have hp_this : At13 G w144 b thrown changes errorAt failedAt isSaved v before saved past q93 (upd L127_scratch L127_x6.toNatClampNeg q141.1) best q141.2.1 q141.2.2 thenMet text line isLeft words wordAt textN hereP endP lineN isWrong isDoing := ⟨hm.keep (hp_this.1) (by omega), hm.keep (hp_this.2.1) (by omega), hm.keep (hp_this.2.2.1) (by omega), hm.keep (hp_this.2.2.2.1) (by omega), hm.keep (hp_this.2.2.2.2.1) (by omega), hm.keep (hp_this.2.2.2.2.2.1) (by omega), hm.1, hm.keep (hp_this.2.2.2.2.2.2.2.1) (by omega), hm.keep (hp_this.2.2.2.2.2.2.2.2.1) (by omega), hm.keep (hp_this.2.2.2.2.2.2.2.2.2.1) (by omega), hm.keep (hp_this.2.2.2.2.2.2.2.2.2.2.1) (by omega), hm.keep (hp_this.2.2.2.2.2.2.2.2.2.2.2.1) (by omega), hm.keep (hp_this.2.2.2.2.2.2.2.2.2.2.2.2) (by omega)⟩
                  have hF := hF.tr (hm.fr (by omega) (by omega))
                  refine lv_iinc (v := (L127_x6 + 1)) (lv' := [(6, .int (L127_x6 + 1)), (0, .ref b), (4, .int x4), (5, .int (q31 q40.toNatClampNeg))]) hx hb dX13_plans_145 hl (k := 3) rfl rfl (by decide) rfl (fun ls hl => ?_)
                  refine lv_goto (tgt := 127) hx hb dX13_plans_148 (by decide) ?_
                  exact ih _ _ _ _ _ hf _ _ _ hM hp_this hF _ (lv_sub hl [1, 2, 3, 0] rfl) hk
            obtain ⟨q127, hq127, hf⟩ := mm_bd hf
            refine L127 K _ _ _ _ _ hq127 _ _ _ hM hp_this hF _ (lv_sub hl [2, 6, 1, 0] rfl) (fun w127 H locs hM hp_this hF ls hl => ?_)
            refine lv_aload_n hx hb dX13_plans_151 rfl (lv_at hl 0 rfl) ?_
            refine lv_iload hx hb dX13_plans_152 (lv_at hl 1 rfl) ?_
            refine lv_iload hx hb dX13_plans_154 (lv_at hl 2 rfl) ?_
            obtain ⟨q156, hq156, hf⟩ := mm_bd hf
            refine mm_Vi (rest := []) hC hM (c_X13_becomes l hq156 hp_this) q8_54 q1_12 ykX13_becomes q8_51 q8_53 qp_0d901908 hp_this.1 rfl ⟨rfl, rfl⟩ ⟨Nat.le_of_ble_eq_true rfl, Nat.le_of_ble_eq_true rfl⟩ rfl hl.1 rfl (Nat.le_of_ble_eq_true rfl) dX13_plans_156 ⟨Nat.le_of_ble_eq_true rfl, Nat.le_of_ble_eq_true rfl⟩ (fun r w156 H locs hM hw => ?_)
            obtain ⟨hr, hn_this, hfr⟩ := hw
            rw [hr]
            have hp_this := hn_this
            have hF := hF.tr (hfr.wide (by omega) (by omega))
            cases hf
            exact hret hM dX13_plans_159 rfl ⟨rfl, hp_this, hF⟩
          · rw [if_neg hcd] at hf
            refine lv_aload_n hx hb dX13_plans_80 rfl (lv_at hl 1 rfl) ?_
            refine lv_iconst (v := 3) hx hb dX13_plans_81 (by decide) ?_
            obtain ⟨q82, hq82, hf⟩ := mm_bd hf
            refine mm_Vi (rest := []) hC hM (c_X13_fail l hq82 hp_this) q7_112 q1_12 ykX13_fail q7_109 q7_111 qp_bcc4f98e hp_this.1 rfl ⟨rfl, rfl⟩ ⟨Nat.le_of_ble_eq_true rfl, Nat.le_of_ble_eq_true rfl⟩ rfl hl.1 rfl (Nat.le_of_ble_eq_true rfl) dX13_plans_82 ⟨Nat.le_of_ble_eq_true rfl, Nat.le_of_ble_eq_true rfl⟩ (fun r w82 H locs hM hw => ?_)
            obtain ⟨hr, hn_this, hfr⟩ := hw
            rw [hr]
            have hp_this := hn_this
            have hF := hF.tr (hfr.wide (by omega) (by omega))
            cases hf
            exact hret hM dX13_plans_85 rfl ⟨rfl, hp_this, hF⟩
        · rw [if_pos hcd] at hf
          refine lv_aload_n hx hb dX13_plans_67 rfl (lv_at hl 1 rfl) ?_
          refine lv_iconst (v := 2) hx hb dX13_plans_68 (by decide) ?_
          obtain ⟨q69, hq69, hf⟩ := mm_bd hf
          refine mm_Vi (rest := []) hC hM (c_X13_fail l hq69 hp_this) q7_112 q1_12 ykX13_fail q7_109 q7_111 qp_bcc4f98e hp_this.1 rfl ⟨rfl, rfl⟩ ⟨Nat.le_of_ble_eq_true rfl, Nat.le_of_ble_eq_true rfl⟩ rfl hl.1 rfl (Nat.le_of_ble_eq_true rfl) dX13_plans_69 ⟨Nat.le_of_ble_eq_true rfl, Nat.le_of_ble_eq_true rfl⟩ (fun r w69 H locs hM hw => ?_)
          obtain ⟨hr, hn_this, hfr⟩ := hw
          rw [hr]
          have hp_this := hn_this
          have hF := hF.tr (hfr.wide (by omega) (by omega))
          cases hf
          exact hret hM dX13_plans_72 rfl ⟨rfl, hp_this, hF⟩
      · rw [if_pos hcd] at hf
        refine lv_aload_n hx hb dX13_plans_53 rfl (lv_at hl 1 rfl) ?_
        refine lv_iconst (v := 1) hx hb dX13_plans_54 (by decide) ?_
        obtain ⟨q55, hq55, hf⟩ := mm_bd hf
        refine mm_Vi (rest := []) hC hM (c_X13_fail l hq55 hp_this) q7_112 q1_12 ykX13_fail q7_109 q7_111 qp_bcc4f98e hp_this.1 rfl ⟨rfl, rfl⟩ ⟨Nat.le_of_ble_eq_true rfl, Nat.le_of_ble_eq_true rfl⟩ rfl hl.1 rfl (Nat.le_of_ble_eq_true rfl) dX13_plans_55 ⟨Nat.le_of_ble_eq_true rfl, Nat.le_of_ble_eq_true rfl⟩ (fun r w55 H locs hM hw => ?_)
        obtain ⟨hr, hn_this, hfr⟩ := hw
        rw [hr]
        have hp_this := hn_this
        have hF := hF.tr (hfr.wide (by omega) (by omega))
        cases hf
        exact hret hM dX13_plans_58 rfl ⟨rfl, hp_this, hF⟩
    · rw [if_pos hcd] at hf
      refine lv_aload_n hx hb dX13_plans_18 rfl (lv_at hl 0 rfl) ?_
      refine lv_iconst (v := 2) hx hb dX13_plans_19 (by decide) ?_
      obtain ⟨q20, hq20, hf⟩ := mm_bd hf
      refine mm_Vi (rest := []) hC hM (c_X13_fail l hq20 hp_this) q7_112 q1_12 ykX13_fail q7_109 q7_111 qp_bcc4f98e hp_this.1 rfl ⟨rfl, rfl⟩ ⟨Nat.le_of_ble_eq_true rfl, Nat.le_of_ble_eq_true rfl⟩ rfl hl.1 rfl (Nat.le_of_ble_eq_true rfl) dX13_plans_20 ⟨Nat.le_of_ble_eq_true rfl, Nat.le_of_ble_eq_true rfl⟩ (fun r w20 H locs hM hw => ?_)
      obtain ⟨hr, hn_this, hfr⟩ := hw
      rw [hr]
      have hp_this := hn_this
      have hF := hF.tr (hfr.wide (by omega) (by omega))
      cases hf
      exact hret hM dX13_plans_23 rfl ⟨rfl, hp_this, hF⟩
  · rw [if_neg hcd] at hf
    refine lv_aload_n hx hb dX13_plans_4 rfl (lv_at hl 0 rfl) ?_
    refine lv_iconst (v := 1) hx hb dX13_plans_5 (by decide) ?_
    obtain ⟨q6, hq6, hf⟩ := mm_bd hf
    refine mm_Vi (rest := []) hC hM (c_X13_fail l hq6 hp_this) q7_112 q1_12 ykX13_fail q7_109 q7_111 qp_bcc4f98e hp_this.1 rfl ⟨rfl, rfl⟩ ⟨Nat.le_of_ble_eq_true rfl, Nat.le_of_ble_eq_true rfl⟩ rfl hl.1 rfl (Nat.le_of_ble_eq_true rfl) dX13_plans_6 ⟨Nat.le_of_ble_eq_true rfl, Nat.le_of_ble_eq_true rfl⟩ (fun r w6 H locs hM hw => ?_)
    obtain ⟨hr, hn_this, hfr⟩ := hw
    rw [hr]
    have hp_this := hn_this
    have hF := hF.tr (hfr.wide (by omega) (by omega))
    cases hf
    exact hret hM dX13_plans_9 rfl ⟨rfl, hp_this, hF⟩
def f_X13_planWay (K : Nat) (changes : Int32) (v : Nat → Int32) (before : Nat → Int32) (past : Nat → Int32) (far : Nat → Int32) (scratch : Nat → Int32) (thenX : Int32) (thenY : Int32) (x1 : Int32) (x2 : Int32) (x3 : Int32) (x4 : Int32) : Option (Int32 × Int32 × Int32 × (Nat → Int32) × (Nat → Int32) × (Nat → Int32) × (Nat → Int32) × (Nat → Int32) × Int32 × Int32) := (f_X13_begins K v before).bind fun q1 => (f_X13_find K v x1).bind fun q8 => (f_X13_plans K q1.1 v far scratch thenX thenY q8 x2 x3 x4).bind fun q15 => (f_X13_ends K q15.2.1 changes q15.2.2.1 q1.2 past q15.1).bind fun q18 => some (q18.1, q15.2.1, q18.2.1, q18.2.2.1, q1.2, q18.2.2.2, q15.2.2.2.1, q15.2.2.2.2.1, q15.2.2.2.2.2.1, q15.2.2.2.2.2.2)
set_option maxHeartbeats 4000000 in
set_option maxRecDepth 100000 in
theorem c_X13_planWay (l : Launch) {G : mm_G} {K : Nat} {w : va_W} {sz : Nat} {b : Nat} {thrown : Int32} {changes : Int32} {errorAt : Int32} {failedAt : Int32} {isSaved : Int32} {v : Nat → Int32} {before : Nat → Int32} {saved : Nat → Int32} {past : Nat → Int32} {far : Nat → Int32} {scratch : Nat → Int32} {best : Nat → Int32} {thenX : Int32} {thenY : Int32} {thenMet : Int32} {text : Nat → Int32} {line : Nat → Int32} {isLeft : Nat → Int32} {words : Nat → Int32} {wordAt : Nat → Int32} {textN : Int32} {hereP : Int32} {endP : Int32} {lineN : Int32} {isWrong : Int32} {isDoing : Int32} {x1 : Int32} {x2 : Int32} {x3 : Int32} {x4 : Int32} {X : Int32 × Int32 × Int32 × (Nat → Int32) × (Nat → Int32) × (Nat → Int32) × (Nat → Int32) × (Nat → Int32) × Int32 × Int32} (hf : f_X13_planWay K changes v before past far scratch thenX thenY x1 x2 x3 x4 = some X) (hp_this : At13 G w b thrown changes errorAt failedAt isSaved v before saved past far scratch best thenX thenY thenMet text line isLeft words wordAt textN hereP endP lineN isWrong isDoing) : Met l yX13_planWay (Cond.code yX13_planWay cX13_planWay 5 (some .int) :: gAll) ({ frames := 5, cells := 0, slots := 0, locals := 117 }) (va_Pc [.ref b, .int x1, .int x2, .int x3, .int x4] (mm_Pre G w sz)) (mm_Qi G w sz (fun r w' => r = X.1 ∧ At13 G w' b X.2.1 X.2.2.1 errorAt failedAt isSaved X.2.2.2.1 X.2.2.2.2.1 saved X.2.2.2.2.2.1 X.2.2.2.2.2.2.1 X.2.2.2.2.2.2.2.1 best X.2.2.2.2.2.2.2.2.1 X.2.2.2.2.2.2.2.2.2 thenMet text line isLeft words wordAt textN hereP endP lineN isWrong isDoing ∧ mm_fr w w' b (b + 13))) 0 0 (va_A w sz) := by
  refine mm_headI [.ref b, .int x1, .int x2, .int x3, .int x4] (by decide +kernel) rfl (Nat.le_of_ble_eq_true rfl) ?_
  intro p e s m args below meth c A Q hsz hC hM hret ls hl
  have hx := hC.1.1
  have hb := hC.1.2.1
  have hl : lv_has ls 5 [(0, .ref b), (1, .int x1), (2, .int x2), (3, .int x3), (4, .int x4)] := hl
  have hF : mm_fr w w b (b + 13) := mm_fr.rf
  rw [f_X13_planWay] at hf
  refine lv_aload_n hx hb dX13_planWay_0 rfl (lv_at hl 0 rfl) ?_
  obtain ⟨q1, hq1, hf⟩ := mm_bd hf
  refine mm_Vv (rest := []) hC hM (c_X13_begins l hq1 hp_this) q7_95 q1_12 ykX13_begins q7_92 q7_94 qp_0e68fe50 hp_this.1 rfl ⟨rfl, rfl⟩ ⟨Nat.le_of_ble_eq_true rfl, Nat.le_of_ble_eq_true rfl⟩ rfl hl.1 rfl (Nat.le_of_ble_eq_true rfl) dX13_planWay_1 ⟨Nat.le_of_ble_eq_true rfl, Nat.le_of_ble_eq_true rfl⟩ (fun w1 H locs hM hw => ?_)
  obtain ⟨hn_this, hfr⟩ := hw
  have hp_this := hn_this
  have hF := hF.tr (hfr.wide (by omega) (by omega))
  refine lv_aload_n hx hb dX13_planWay_4 rfl (lv_at hl 0 rfl) ?_
  refine lv_aload_n hx hb dX13_planWay_5 rfl (lv_at hl 0 rfl) ?_
  refine lv_aload_n hx hb dX13_planWay_6 rfl (lv_at hl 0 rfl) ?_
  refine lv_iload_n hx hb dX13_planWay_7 rfl (lv_at hl 1 rfl) ?_
  obtain ⟨q8, hq8, hf⟩ := mm_bd hf
  refine mm_Vi (rest := [.ref b, .ref b]) hC hM (c_X13_find l hq8 hp_this) q7_218 q1_12 ykX13_find q7_215 q7_217 qp_0f7fdc43 hp_this.1 rfl ⟨rfl, rfl⟩ ⟨Nat.le_of_ble_eq_true rfl, Nat.le_of_ble_eq_true rfl⟩ rfl hl.1 rfl (Nat.le_of_ble_eq_true rfl) dX13_planWay_8 ⟨Nat.le_of_ble_eq_true rfl, Nat.le_of_ble_eq_true rfl⟩ (fun r w8 H locs hM hw => ?_)
  obtain ⟨hr, hw⟩ := hw
  rw [hr]
  rw [hw] at hM
  refine lv_iload_n hx hb dX13_planWay_11 rfl (lv_at hl 2 rfl) ?_
  refine lv_iload_n hx hb dX13_planWay_12 rfl (lv_at hl 3 rfl) ?_
  refine lv_iload hx hb dX13_planWay_13 (lv_at hl 4 rfl) ?_
  obtain ⟨q15, hq15, hf⟩ := mm_bd hf
  refine mm_Vi (rest := [.ref b]) hC hM (c_X13_plans l hq15 hp_this) q8_162 q1_12 ykX13_plans q8_159 q8_161 qp_546f3ee3 hp_this.1 rfl ⟨rfl, rfl⟩ ⟨Nat.le_of_ble_eq_true rfl, Nat.le_of_ble_eq_true rfl⟩ rfl hl.1 rfl (Nat.le_of_ble_eq_true rfl) dX13_planWay_15 ⟨Nat.le_of_ble_eq_true rfl, Nat.le_of_ble_eq_true rfl⟩ (fun r w15 H locs hM hw => ?_)
  obtain ⟨hr, hn_this, hfr⟩ := hw
  rw [hr]
  have hp_this := hn_this
  have hF := hF.tr (hfr.wide (by omega) (by omega))
  obtain ⟨q18, hq18, hf⟩ := mm_bd hf
  refine mm_Vi (rest := []) hC hM (c_X13_ends l hq18 hp_this) q7_133 q1_12 ykX13_ends q7_130 q7_132 qp_952383d2 hp_this.1 rfl ⟨rfl, rfl⟩ ⟨Nat.le_of_ble_eq_true rfl, Nat.le_of_ble_eq_true rfl⟩ rfl hl.1 rfl (Nat.le_of_ble_eq_true rfl) dX13_planWay_18 ⟨Nat.le_of_ble_eq_true rfl, Nat.le_of_ble_eq_true rfl⟩ (fun r w18 H locs hM hw => ?_)
  obtain ⟨hr, hn_this, hfr⟩ := hw
  rw [hr]
  have hp_this := hn_this
  have hF := hF.tr (hfr.wide (by omega) (by omega))
  cases hf
  exact hret hM dX13_planWay_21 rfl ⟨rfl, hp_this, hF⟩
def f_X13_lands_L24 (thrown : Int32) (v : Nat → Int32) (x1 : Int32) (x2 : Int32) (x3 : Int32) : Nat → (Int32) → Option (Int32 × Int32 × (Nat → Int32))
  | 0, _ => none
  | n + 1, x4 => if x3 ≤ x4 then if x3 = 8 then (f_X13_fail 2).bind fun q69 => some (q69.1, q69.2, v) else (f_X13_cell x1 x2).bind fun q84 => mm_g (mm_ck (230 + x3) 238) (some (x3, thrown, (upd (upd v ((230 + x3).toNatClampNeg) q84) 4 (((upd v ((230 + x3).toNatClampNeg) q84) 4) + 1)))) else mm_g (mm_ck (230 + x4) 238) ((f_X13_cell x1 x2).bind fun q43 => if (v (230 + x4).toNatClampNeg) = q43 then (f_X13_fail 2).bind fun q51 => some (q51.1, q51.2, v) else f_X13_lands_L24 thrown v x1 x2 x3 n (x4 + 1))
def f_X13_lands (K : Nat) (thrown : Int32) (v : Nat → Int32) (x1 : Int32) (x2 : Int32) : Option (Int32 × Int32 × (Nat → Int32)) := (f_X13_isCell x1 x2).bind fun q2 => if q2 = 0 then (f_X13_fail 1).bind fun q10 => some (q10.1, q10.2, v) else f_X13_lands_L24 thrown v x1 x2 (v 4) K 0
set_option maxHeartbeats 4000000 in
set_option maxRecDepth 100000 in
theorem c_X13_lands (l : Launch) {G : mm_G} {K : Nat} {w : va_W} {sz : Nat} {b : Nat} {thrown : Int32} {changes : Int32} {errorAt : Int32} {failedAt : Int32} {isSaved : Int32} {v : Nat → Int32} {before : Nat → Int32} {saved : Nat → Int32} {past : Nat → Int32} {far : Nat → Int32} {scratch : Nat → Int32} {best : Nat → Int32} {thenX : Int32} {thenY : Int32} {thenMet : Int32} {text : Nat → Int32} {line : Nat → Int32} {isLeft : Nat → Int32} {words : Nat → Int32} {wordAt : Nat → Int32} {textN : Int32} {hereP : Int32} {endP : Int32} {lineN : Int32} {isWrong : Int32} {isDoing : Int32} {x1 : Int32} {x2 : Int32} {X : Int32 × Int32 × (Nat → Int32)} (hf : f_X13_lands K thrown v x1 x2 = some X) (hp_this : At13 G w b thrown changes errorAt failedAt isSaved v before saved past far scratch best thenX thenY thenMet text line isLeft words wordAt textN hereP endP lineN isWrong isDoing) : Met l yX13_lands (Cond.code yX13_lands cX13_lands 5 (some .int) :: gAll) ({ frames := 2, cells := 0, slots := 0, locals := 43 }) (va_Pc [.ref b, .int x1, .int x2] (mm_Pre G w sz)) (mm_Qi G w sz (fun r w' => r = X.1 ∧ At13 G w' b X.2.1 changes errorAt failedAt isSaved X.2.2 before saved past far scratch best thenX thenY thenMet text line isLeft words wordAt textN hereP endP lineN isWrong isDoing ∧ mm_fr w w' b (b + 13))) 0 0 (va_A w sz) := by
  refine mm_headI [.ref b, .int x1, .int x2] (by decide +kernel) rfl (Nat.le_of_ble_eq_true rfl) ?_
  intro p e s m args below meth c A Q hsz hC hM hret ls hl
  have hx := hC.1.1
  have hb := hC.1.2.1
  have hl : lv_has ls 5 [(0, .ref b), (1, .int x1), (2, .int x2)] := hl
  have hF : mm_fr w w b (b + 13) := mm_fr.rf
  rw [f_X13_lands] at hf
  refine lv_iload_n hx hb dX13_lands_0 rfl (lv_at hl 1 rfl) ?_
  refine lv_iload_n hx hb dX13_lands_1 rfl (lv_at hl 2 rfl) ?_
  obtain ⟨q2, hq2, hf⟩ := mm_bd hf
  refine mm_Si (rest := []) hC hM (c_X13_isCell l hq2) q7_105 q1_12 ykX13_isCell q7_103 q7_104 ⟨rfl, rfl⟩ ⟨Nat.le_of_ble_eq_true rfl, Nat.le_of_ble_eq_true rfl⟩ rfl hl.1 rfl (Nat.le_of_ble_eq_true rfl) dX13_lands_2 ⟨Nat.le_of_ble_eq_true rfl, Nat.le_of_ble_eq_true rfl⟩ (fun r w2 H locs hM hw => ?_)
  obtain ⟨hr, hw⟩ := hw
  rw [hr]
  rw [hw] at hM
  refine lv_if_ne (tgt := 14) hx hb dX13_lands_5 (by decide) (fun hcd => ?_) (fun hcd => ?_)
  · rw [if_neg hcd] at hf
    refine lv_aload_n hx hb dX13_lands_14 rfl (lv_at hl 0 rfl) ?_
    refine mm_get hC hM (k := 5) hp_this.1 rfl inAX13 (by decide) q7_10 rfl dX13_lands_15 ?_
    refine lv_iconst (v := 4) hx hb dX13_lands_18 (by decide) ?_
    refine mm_ialdN (N := 4) hC hM (hp_this.2.1) (by decide) (by unfold vp_in; decide) dX13_lands_19 ?_
    refine lv_istore_n (lv' := [(3, .int (v 4)), (0, .ref b), (1, .int x1), (2, .int x2)]) hx hb dX13_lands_20 rfl hl (by decide) rfl (fun ls hl => ?_)
    refine lv_iconst (v := 0) hx hb dX13_lands_21 (by decide) ?_
    refine lv_istore (lv' := [(4, .int 0), (3, .int (v 4)), (0, .ref b), (1, .int x1), (2, .int x2)]) hx hb dX13_lands_22 hl (by decide) rfl (fun ls hl => ?_)
    have L24 : ∀ (n : Nat) (L24_x4 : Int32), f_X13_lands_L24 thrown v x1 x2 (v 4) n L24_x4 = some X → ∀ (H : Heap) (locs : List Loc), mm_S G A s.heap w H locs → ∀ (ls : Array Slot), lv_has ls 5 [(0, .ref b), (1, .int x1), (2, .int x2), (3, .int (v 4)), (4, .int L24_x4)] → W p l e ({ frames := 2, cells := 0, slots := 0, locals := 43 } : Room) s m args below meth c H locs 0 0 Q (F0 m 24 ls []) := by
      intro n
      induction n with
      | zero => intro L24_x4 hf; cases hf
      | succ n ih =>
        intro L24_x4 hf H locs hM ls hl
        rw [f_X13_lands_L24] at hf
        refine lv_iload hx hb dX13_lands_24 (lv_at hl 4 rfl) ?_
        refine lv_iload_n hx hb dX13_lands_26 rfl (lv_at hl 3 rfl) ?_
        refine lv_icmp_ge (tgt := 61) hx hb dX13_lands_27 (by decide) (fun hcd => ?_) (fun hcd => ?_)
        · rw [if_pos hcd] at hf
          refine lv_iload_n hx hb dX13_lands_61 rfl (lv_at hl 3 rfl) ?_
          refine lv_bipush (v := 8) hx hb dX13_lands_62 (by decide) ?_
          refine lv_icmp_ne (tgt := 73) hx hb dX13_lands_64 (by decide) (fun hcd => ?_) (fun hcd => ?_)
          · rw [if_neg hcd] at hf
            refine lv_aload_n hx hb dX13_lands_73 rfl (lv_at hl 0 rfl) ?_
            refine mm_get hC hM (k := 5) hp_this.1 rfl inAX13 (by decide) q7_10 rfl dX13_lands_74 ?_
            refine lv_sipush (v := 230) hx hb dX13_lands_77 (by decide) ?_
            refine lv_iload_n hx hb dX13_lands_80 rfl (lv_at hl 3 rfl) ?_
            refine lv_iadd hx hb dX13_lands_81 ?_
            refine lv_iload_n hx hb dX13_lands_82 rfl (lv_at hl 1 rfl) ?_
            refine lv_iload_n hx hb dX13_lands_83 rfl (lv_at hl 2 rfl) ?_
            obtain ⟨q84, hq84, hf⟩ := mm_bd hf
            refine mm_Si (rest := [.int (230 + (v 4)), .ref (b + 1)]) hC hM (c_X13_cell l hq84) q7_115 q1_12 ykX13_cell q7_113 q7_114 ⟨rfl, rfl⟩ ⟨Nat.le_of_ble_eq_true rfl, Nat.le_of_ble_eq_true rfl⟩ rfl hl.1 rfl (Nat.le_of_ble_eq_true rfl) dX13_lands_84 ⟨Nat.le_of_ble_eq_true rfl, Nat.le_of_ble_eq_true rfl⟩ (fun r w84 H locs hM hw => ?_)
            obtain ⟨hr, hw⟩ := hw
            rw [hr]
            rw [hw] at hM
            obtain ⟨hg87, hf⟩ := mm_gd hf
            refine mm_iast hC hM (hp_this.2.1) hg87 dX13_lands_87 (fun w87 H locs hM hm => ?_)
            have hp_this : At13 G w87 b thrown changes errorAt failedAt isSaved (upd v ((230 + (v 4)).toNatClampNeg) q84) before saved past far scratch best thenX thenY thenMet text line isLeft words wordAt textN hereP endP lineN isWrong isDoing := ⟨hm.keep (hp_this.1) (by omega), hm.1, hm.keep (hp_this.2.2.1) (by omega), hm.keep (hp_this.2.2.2.1) (by omega), hm.keep (hp_this.2.2.2.2.1) (by omega), hm.keep (hp_this.2.2.2.2.2.1) (by omega), hm.keep (hp_this.2.2.2.2.2.2.1) (by omega), hm.keep (hp_this.2.2.2.2.2.2.2.1) (by omega), hm.keep (hp_this.2.2.2.2.2.2.2.2.1) (by omega), hm.keep (hp_this.2.2.2.2.2.2.2.2.2.1) (by omega), hm.keep (hp_this.2.2.2.2.2.2.2.2.2.2.1) (by omega), hm.keep (hp_this.2.2.2.2.2.2.2.2.2.2.2.1) (by omega), hm.keep (hp_this.2.2.2.2.2.2.2.2.2.2.2.2) (by omega)⟩
            have hF := hF.tr (hm.fr (by omega) (by omega))
            refine lv_aload_n hx hb dX13_lands_88 rfl (lv_at hl 0 rfl) ?_
            refine mm_get hC hM (k := 5) hp_this.1 rfl inAX13 (by decide) q7_10 rfl dX13_lands_89 ?_
            refine lv_iconst (v := 4) hx hb dX13_lands_92 (by decide) ?_
            refine lv_dup2_11 hx hb dX13_lands_93 rfl rfl ?_
            refine mm_ialdN (N := 4) hC hM (hp_this.2.1) (by decide) (by unfold vp_in; decide) dX13_lands_94 ?_
            refine lv_iconst (v := 1) hx hb dX13_lands_95 (by decide) ?_
            refine lv_iadd hx hb dX13_lands_96 ?_
            refine mm_iastN (N := 4) hC hM (hp_this.2.1) (by decide) (by unfold vp_in; decide) dX13_lands_97 (fun w97 H locs hM hm => ?_)
            have hp_this : At13 G w97 b thrown changes errorAt failedAt isSaved (upd (upd v ((230 + (v 4)).toNatClampNeg) q84) 4 (((upd v ((230 + (v 4)).toNatClampNeg) q84) 4) + 1)) before saved past far scratch best thenX thenY thenMet text line isLeft words wordAt textN hereP endP lineN isWrong isDoing := ⟨hm.keep (hp_this.1) (by omega), hm.1, hm.keep (hp_this.2.2.1) (by omega), hm.keep (hp_this.2.2.2.1) (by omega), hm.keep (hp_this.2.2.2.2.1) (by omega), hm.keep (hp_this.2.2.2.2.2.1) (by omega), hm.keep (hp_this.2.2.2.2.2.2.1) (by omega), hm.keep (hp_this.2.2.2.2.2.2.2.1) (by omega), hm.keep (hp_this.2.2.2.2.2.2.2.2.1) (by omega), hm.keep (hp_this.2.2.2.2.2.2.2.2.2.1) (by omega), hm.keep (hp_this.2.2.2.2.2.2.2.2.2.2.1) (by omega), hm.keep (hp_this.2.2.2.2.2.2.2.2.2.2.2.1) (by omega), hm.keep (hp_this.2.2.2.2.2.2.2.2.2.2.2.2) (by omega)⟩
            have hF := hF.tr (hm.fr (by omega) (by omega))
            refine lv_iload_n hx hb dX13_lands_98 rfl (lv_at hl 3 rfl) ?_
            cases hf
            exact hret hM dX13_lands_99 rfl ⟨rfl, hp_this, hF⟩
          · rw [if_pos hcd] at hf
            refine lv_aload_n hx hb dX13_lands_67 rfl (lv_at hl 0 rfl) ?_
            refine lv_iconst (v := 2) hx hb dX13_lands_68 (by decide) ?_
            obtain ⟨q69, hq69, hf⟩ := mm_bd hf
            refine mm_Vi (rest := []) hC hM (c_X13_fail l hq69 hp_this) q7_112 q1_12 ykX13_fail q7_109 q7_111 qp_bcc4f98e hp_this.1 rfl ⟨rfl, rfl⟩ ⟨Nat.le_of_ble_eq_true rfl, Nat.le_of_ble_eq_true rfl⟩ rfl hl.1 rfl (Nat.le_of_ble_eq_true rfl) dX13_lands_69 ⟨Nat.le_of_ble_eq_true rfl, Nat.le_of_ble_eq_true rfl⟩ (fun r w69 H locs hM hw => ?_)
            obtain ⟨hr, hn_this, hfr⟩ := hw
            rw [hr]
            have hp_this := hn_this
            have hF := hF.tr (hfr.wide (by omega) (by omega))
            cases hf
            exact hret hM dX13_lands_72 rfl ⟨rfl, hp_this, hF⟩
        · rw [if_neg hcd] at hf
          refine lv_aload_n hx hb dX13_lands_30 rfl (lv_at hl 0 rfl) ?_
          refine mm_get hC hM (k := 5) hp_this.1 rfl inAX13 (by decide) q7_10 rfl dX13_lands_31 ?_
          refine lv_sipush (v := 230) hx hb dX13_lands_34 (by decide) ?_
          refine lv_iload hx hb dX13_lands_37 (lv_at hl 4 rfl) ?_
          refine lv_iadd hx hb dX13_lands_39 ?_
          obtain ⟨hg40, hf⟩ := mm_gd hf
          refine mm_iald hC hM (hp_this.2.1) hg40 dX13_lands_40 ?_
          refine lv_iload_n hx hb dX13_lands_41 rfl (lv_at hl 1 rfl) ?_
          refine lv_iload_n hx hb dX13_lands_42 rfl (lv_at hl 2 rfl) ?_
          obtain ⟨q43, hq43, hf⟩ := mm_bd hf
          refine mm_Si (rest := [.int (v (230 + L24_x4).toNatClampNeg)]) hC hM (c_X13_cell l hq43) q7_115 q1_12 ykX13_cell q7_113 q7_114 ⟨rfl, rfl⟩ ⟨Nat.le_of_ble_eq_true rfl, Nat.le_of_ble_eq_true rfl⟩ rfl hl.1 rfl (Nat.le_of_ble_eq_true rfl) dX13_lands_43 ⟨Nat.le_of_ble_eq_true rfl, Nat.le_of_ble_eq_true rfl⟩ (fun r w43 H locs hM hw => ?_)
          obtain ⟨hr, hw⟩ := hw
          rw [hr]
          rw [hw] at hM
          refine lv_icmp_ne (tgt := 55) hx hb dX13_lands_46 (by decide) (fun hcd => ?_) (fun hcd => ?_)
          · rw [if_neg hcd] at hf
            refine lv_iinc (v := (L24_x4 + 1)) (lv' := [(4, .int (L24_x4 + 1)), (0, .ref b), (1, .int x1), (2, .int x2), (3, .int (v 4))]) hx hb dX13_lands_55 hl (k := 4) rfl rfl (by decide) rfl (fun ls hl => ?_)
            refine lv_goto (tgt := 24) hx hb dX13_lands_58 (by decide) ?_
            exact ih _ hf _ _ hM _ (lv_sub hl [1, 2, 3, 4, 0] rfl)
          · rw [if_pos hcd] at hf
            refine lv_aload_n hx hb dX13_lands_49 rfl (lv_at hl 0 rfl) ?_
            refine lv_iconst (v := 2) hx hb dX13_lands_50 (by decide) ?_
            obtain ⟨q51, hq51, hf⟩ := mm_bd hf
            refine mm_Vi (rest := []) hC hM (c_X13_fail l hq51 hp_this) q7_112 q1_12 ykX13_fail q7_109 q7_111 qp_bcc4f98e hp_this.1 rfl ⟨rfl, rfl⟩ ⟨Nat.le_of_ble_eq_true rfl, Nat.le_of_ble_eq_true rfl⟩ rfl hl.1 rfl (Nat.le_of_ble_eq_true rfl) dX13_lands_51 ⟨Nat.le_of_ble_eq_true rfl, Nat.le_of_ble_eq_true rfl⟩ (fun r w51 H locs hM hw => ?_)
            obtain ⟨hr, hn_this, hfr⟩ := hw
            rw [hr]
            have hp_this := hn_this
            have hF := hF.tr (hfr.wide (by omega) (by omega))
            cases hf
            exact hret hM dX13_lands_54 rfl ⟨rfl, hp_this, hF⟩
    exact L24 K _ hf _ _ hM _ (lv_sub hl [2, 3, 4, 1, 0] rfl)
  · rw [if_pos hcd] at hf
    refine lv_aload_n hx hb dX13_lands_8 rfl (lv_at hl 0 rfl) ?_
    refine lv_iconst (v := 1) hx hb dX13_lands_9 (by decide) ?_
    obtain ⟨q10, hq10, hf⟩ := mm_bd hf
    refine mm_Vi (rest := []) hC hM (c_X13_fail l hq10 hp_this) q7_112 q1_12 ykX13_fail q7_109 q7_111 qp_bcc4f98e hp_this.1 rfl ⟨rfl, rfl⟩ ⟨Nat.le_of_ble_eq_true rfl, Nat.le_of_ble_eq_true rfl⟩ rfl hl.1 rfl (Nat.le_of_ble_eq_true rfl) dX13_lands_10 ⟨Nat.le_of_ble_eq_true rfl, Nat.le_of_ble_eq_true rfl⟩ (fun r w10 H locs hM hw => ?_)
    obtain ⟨hr, hn_this, hfr⟩ := hw
    rw [hr]
    have hp_this := hn_this
    have hF := hF.tr (hfr.wide (by omega) (by omega))
    cases hf
    exact hret hM dX13_lands_13 rfl ⟨rfl, hp_this, hF⟩
def f_X13_addLanding (K : Nat) (changes : Int32) (v : Nat → Int32) (before : Nat → Int32) (past : Nat → Int32) (x1 : Int32) (x2 : Int32) : Option (Int32 × Int32 × Int32 × (Nat → Int32) × (Nat → Int32) × (Nat → Int32)) := (f_X13_begins K v before).bind fun q1 => (f_X13_lands K q1.1 v x1 x2).bind fun q8 => (f_X13_ends K q8.2.1 changes q8.2.2 q1.2 past q8.1).bind fun q11 => some (q11.1, q8.2.1, q11.2.1, q11.2.2.1, q1.2, q11.2.2.2)
set_option maxHeartbeats 4000000 in
set_option maxRecDepth 100000 in
theorem c_X13_addLanding (l : Launch) {G : mm_G} {K : Nat} {w : va_W} {sz : Nat} {b : Nat} {thrown : Int32} {changes : Int32} {errorAt : Int32} {failedAt : Int32} {isSaved : Int32} {v : Nat → Int32} {before : Nat → Int32} {saved : Nat → Int32} {past : Nat → Int32} {far : Nat → Int32} {scratch : Nat → Int32} {best : Nat → Int32} {thenX : Int32} {thenY : Int32} {thenMet : Int32} {text : Nat → Int32} {line : Nat → Int32} {isLeft : Nat → Int32} {words : Nat → Int32} {wordAt : Nat → Int32} {textN : Int32} {hereP : Int32} {endP : Int32} {lineN : Int32} {isWrong : Int32} {isDoing : Int32} {x1 : Int32} {x2 : Int32} {X : Int32 × Int32 × Int32 × (Nat → Int32) × (Nat → Int32) × (Nat → Int32)} (hf : f_X13_addLanding K changes v before past x1 x2 = some X) (hp_this : At13 G w b thrown changes errorAt failedAt isSaved v before saved past far scratch best thenX thenY thenMet text line isLeft words wordAt textN hereP endP lineN isWrong isDoing) : Met l yX13_addLanding (Cond.code yX13_addLanding cX13_addLanding 3 (some .int) :: gAll) ({ frames := 3, cells := 0, slots := 0, locals := 67 }) (va_Pc [.ref b, .int x1, .int x2] (mm_Pre G w sz)) (mm_Qi G w sz (fun r w' => r = X.1 ∧ At13 G w' b X.2.1 X.2.2.1 errorAt failedAt isSaved X.2.2.2.1 X.2.2.2.2.1 saved X.2.2.2.2.2 far scratch best thenX thenY thenMet text line isLeft words wordAt textN hereP endP lineN isWrong isDoing ∧ mm_fr w w' b (b + 13))) 0 0 (va_A w sz) := by
  refine mm_headI [.ref b, .int x1, .int x2] (by decide +kernel) rfl (Nat.le_of_ble_eq_true rfl) ?_
  intro p e s m args below meth c A Q hsz hC hM hret ls hl
  have hx := hC.1.1
  have hb := hC.1.2.1
  have hl : lv_has ls 3 [(0, .ref b), (1, .int x1), (2, .int x2)] := hl
  have hF : mm_fr w w b (b + 13) := mm_fr.rf
  rw [f_X13_addLanding] at hf
  refine lv_aload_n hx hb dX13_addLanding_0 rfl (lv_at hl 0 rfl) ?_
  obtain ⟨q1, hq1, hf⟩ := mm_bd hf
  refine mm_Vv (rest := []) hC hM (c_X13_begins l hq1 hp_this) q7_95 q1_12 ykX13_begins q7_92 q7_94 qp_0e68fe50 hp_this.1 rfl ⟨rfl, rfl⟩ ⟨Nat.le_of_ble_eq_true rfl, Nat.le_of_ble_eq_true rfl⟩ rfl hl.1 rfl (Nat.le_of_ble_eq_true rfl) dX13_addLanding_1 ⟨Nat.le_of_ble_eq_true rfl, Nat.le_of_ble_eq_true rfl⟩ (fun w1 H locs hM hw => ?_)
  obtain ⟨hn_this, hfr⟩ := hw
  have hp_this := hn_this
  have hF := hF.tr (hfr.wide (by omega) (by omega))
  refine lv_aload_n hx hb dX13_addLanding_4 rfl (lv_at hl 0 rfl) ?_
  refine lv_aload_n hx hb dX13_addLanding_5 rfl (lv_at hl 0 rfl) ?_
  refine lv_iload_n hx hb dX13_addLanding_6 rfl (lv_at hl 1 rfl) ?_
  refine lv_iload_n hx hb dX13_addLanding_7 rfl (lv_at hl 2 rfl) ?_
  obtain ⟨q8, hq8, hf⟩ := mm_bd hf
  refine mm_Vi (rest := [.ref b]) hC hM (c_X13_lands l hq8 hp_this) q8_174 q1_12 ykX13_lands q8_171 q8_173 qp_6ff63dbc hp_this.1 rfl ⟨rfl, rfl⟩ ⟨Nat.le_of_ble_eq_true rfl, Nat.le_of_ble_eq_true rfl⟩ rfl hl.1 rfl (Nat.le_of_ble_eq_true rfl) dX13_addLanding_8 ⟨Nat.le_of_ble_eq_true rfl, Nat.le_of_ble_eq_true rfl⟩ (fun r w8 H locs hM hw => ?_)
  obtain ⟨hr, hn_this, hfr⟩ := hw
  rw [hr]
  have hp_this := hn_this
  have hF := hF.tr (hfr.wide (by omega) (by omega))
  obtain ⟨q11, hq11, hf⟩ := mm_bd hf
  refine mm_Vi (rest := []) hC hM (c_X13_ends l hq11 hp_this) q7_133 q1_12 ykX13_ends q7_130 q7_132 qp_952383d2 hp_this.1 rfl ⟨rfl, rfl⟩ ⟨Nat.le_of_ble_eq_true rfl, Nat.le_of_ble_eq_true rfl⟩ rfl hl.1 rfl (Nat.le_of_ble_eq_true rfl) dX13_addLanding_11 ⟨Nat.le_of_ble_eq_true rfl, Nat.le_of_ble_eq_true rfl⟩ (fun r w11 H locs hM hw => ?_)
  obtain ⟨hr, hn_this, hfr⟩ := hw
  rw [hr]
  have hp_this := hn_this
  have hF := hF.tr (hfr.wide (by omega) (by omega))
  cases hf
  exact hret hM dX13_addLanding_14 rfl ⟨rfl, hp_this, hF⟩
def f_X13_isLanding (v : Nat → Int32) (x1 : Int32) : Option (Int32) := (f_X13_isIn x1 0 ((v 4) - 1)).bind fun q10 => mm_g (decide (q10 = 0 ∨ q10 = 1)) (some q10)
set_option maxHeartbeats 4000000 in
set_option maxRecDepth 100000 in
theorem c_X13_isLanding (l : Launch) {G : mm_G} {w : va_W} {sz : Nat} {b : Nat} {thrown : Int32} {changes : Int32} {errorAt : Int32} {failedAt : Int32} {isSaved : Int32} {v : Nat → Int32} {before : Nat → Int32} {saved : Nat → Int32} {past : Nat → Int32} {far : Nat → Int32} {scratch : Nat → Int32} {best : Nat → Int32} {thenX : Int32} {thenY : Int32} {thenMet : Int32} {text : Nat → Int32} {line : Nat → Int32} {isLeft : Nat → Int32} {words : Nat → Int32} {wordAt : Nat → Int32} {textN : Int32} {hereP : Int32} {endP : Int32} {lineN : Int32} {isWrong : Int32} {isDoing : Int32} {x1 : Int32} {X : Int32} (hf : f_X13_isLanding v x1 = some X) (hp_this : At13 G w b thrown changes errorAt failedAt isSaved v before saved past far scratch best thenX thenY thenMet text line isLeft words wordAt textN hereP endP lineN isWrong isDoing) : Met l yX13_isLanding (Cond.code yX13_isLanding cX13_isLanding 2 (some .boolean) :: gAll) ({ frames := 1, cells := 0, slots := 0, locals := 22 }) (va_Pc [.ref b, .int x1] (mm_Pre G w sz)) (mm_Qi G w sz (fun r w' => r = X ∧ w' = w)) 0 0 (va_A w sz) := by
  refine mm_headI [.ref b, .int x1] (by decide +kernel) rfl (Nat.le_of_ble_eq_true rfl) ?_
  intro p e s m args below meth c A Q hsz hC hM hret ls hl
  have hx := hC.1.1
  have hb := hC.1.2.1
  have hl : lv_has ls 2 [(0, .ref b), (1, .int x1)] := hl
  rw [f_X13_isLanding] at hf
  refine lv_iload_n hx hb dX13_isLanding_0 rfl (lv_at hl 1 rfl) ?_
  refine lv_iconst (v := 0) hx hb dX13_isLanding_1 (by decide) ?_
  refine lv_aload_n hx hb dX13_isLanding_2 rfl (lv_at hl 0 rfl) ?_
  refine mm_get hC hM (k := 5) hp_this.1 rfl inAX13 (by decide) q7_10 rfl dX13_isLanding_3 ?_
  refine lv_iconst (v := 4) hx hb dX13_isLanding_6 (by decide) ?_
  refine mm_ialdN (N := 4) hC hM (hp_this.2.1) (by decide) (by unfold vp_in; decide) dX13_isLanding_7 ?_
  refine lv_iconst (v := 1) hx hb dX13_isLanding_8 (by decide) ?_
  refine lv_isub hx hb dX13_isLanding_9 ?_
  obtain ⟨q10, hq10, hf⟩ := mm_bd hf
  refine mm_Si (rest := []) hC hM (c_X13_isIn l hq10) q7_108 q1_12 ykX13_isIn q7_106 q7_107 ⟨rfl, rfl⟩ ⟨Nat.le_of_ble_eq_true rfl, Nat.le_of_ble_eq_true rfl⟩ rfl hl.1 rfl (Nat.le_of_ble_eq_true rfl) dX13_isLanding_10 ⟨Nat.le_of_ble_eq_true rfl, Nat.le_of_ble_eq_true rfl⟩ (fun r w10 H locs hM hw => ?_)
  obtain ⟨hr, hw⟩ := hw
  rw [hr]
  rw [hw] at hM
  obtain ⟨hgr, hf⟩ := mm_gb hf
  cases hf
  exact hret hM dX13_isLanding_13 (mm_narZ (of_decide_eq_true hgr)) ⟨rfl, rfl⟩
def f_X13_drops_L26 : Nat → (Int32) → (Nat → Int32) → Option (Nat → Int32)
  | 0, _, _ => none
  | n + 1, x2, v => if (v 4) ≤ x2 then some v else mm_g (mm_ck ((230 + x2) + 1) 238) (mm_g (mm_ck (230 + x2) 238) (f_X13_drops_L26 n (x2 + 1) (upd v ((230 + x2).toNatClampNeg) (v ((230 + x2) + 1).toNatClampNeg))))
def f_X13_drops (K : Nat) (thrown : Int32) (v : Nat → Int32) (x1 : Int32) : Option (Int32 × Int32 × (Nat → Int32)) := (f_X13_isLanding v x1).bind fun q2 => if q2 = 0 then (f_X13_fail 1).bind fun q10 => some (q10.1, q10.2, v) else (f_X13_drops_L26 K x1 (upd v 4 ((v 4) - 1))).bind fun q26 => mm_g (mm_ck (230 + (q26 4)) 238) (some (((upd q26 ((230 + (q26 4)).toNatClampNeg) 0) 4), thrown, (upd q26 ((230 + (q26 4)).toNatClampNeg) 0)))
set_option maxHeartbeats 4000000 in
set_option maxRecDepth 100000 in
theorem c_X13_drops (l : Launch) {G : mm_G} {K : Nat} {w : va_W} {sz : Nat} {b : Nat} {thrown : Int32} {changes : Int32} {errorAt : Int32} {failedAt : Int32} {isSaved : Int32} {v : Nat → Int32} {before : Nat → Int32} {saved : Nat → Int32} {past : Nat → Int32} {far : Nat → Int32} {scratch : Nat → Int32} {best : Nat → Int32} {thenX : Int32} {thenY : Int32} {thenMet : Int32} {text : Nat → Int32} {line : Nat → Int32} {isLeft : Nat → Int32} {words : Nat → Int32} {wordAt : Nat → Int32} {textN : Int32} {hereP : Int32} {endP : Int32} {lineN : Int32} {isWrong : Int32} {isDoing : Int32} {x1 : Int32} {X : Int32 × Int32 × (Nat → Int32)} (hf : f_X13_drops K thrown v x1 = some X) (hp_this : At13 G w b thrown changes errorAt failedAt isSaved v before saved past far scratch best thenX thenY thenMet text line isLeft words wordAt textN hereP endP lineN isWrong isDoing) : Met l yX13_drops (Cond.code yX13_drops cX13_drops 3 (some .int) :: gAll) ({ frames := 2, cells := 0, slots := 0, locals := 43 }) (va_Pc [.ref b, .int x1] (mm_Pre G w sz)) (mm_Qi G w sz (fun r w' => r = X.1 ∧ At13 G w' b X.2.1 changes errorAt failedAt isSaved X.2.2 before saved past far scratch best thenX thenY thenMet text line isLeft words wordAt textN hereP endP lineN isWrong isDoing ∧ mm_fr w w' b (b + 13))) 0 0 (va_A w sz) := by
  refine mm_headI [.ref b, .int x1] (by decide +kernel) rfl (Nat.le_of_ble_eq_true rfl) ?_
  intro p e s m args below meth c A Q hsz hC hM hret ls hl
  have hx := hC.1.1
  have hb := hC.1.2.1
  have hl : lv_has ls 3 [(0, .ref b), (1, .int x1)] := hl
  have hF : mm_fr w w b (b + 13) := mm_fr.rf
  rw [f_X13_drops] at hf
  refine lv_aload_n hx hb dX13_drops_0 rfl (lv_at hl 0 rfl) ?_
  refine lv_iload_n hx hb dX13_drops_1 rfl (lv_at hl 1 rfl) ?_
  obtain ⟨q2, hq2, hf⟩ := mm_bd hf
  refine mm_Vi (rest := []) hC hM (c_X13_isLanding l hq2 hp_this) q8_186 q1_12 ykX13_isLanding q8_183 q8_185 qp_b83db358 hp_this.1 rfl ⟨rfl, rfl⟩ ⟨Nat.le_of_ble_eq_true rfl, Nat.le_of_ble_eq_true rfl⟩ rfl hl.1 rfl (Nat.le_of_ble_eq_true rfl) dX13_drops_2 ⟨Nat.le_of_ble_eq_true rfl, Nat.le_of_ble_eq_true rfl⟩ (fun r w2 H locs hM hw => ?_)
  obtain ⟨hr, hw⟩ := hw
  rw [hr]
  rw [hw] at hM
  refine lv_if_ne (tgt := 14) hx hb dX13_drops_5 (by decide) (fun hcd => ?_) (fun hcd => ?_)
  · rw [if_neg hcd] at hf
    refine lv_aload_n hx hb dX13_drops_14 rfl (lv_at hl 0 rfl) ?_
    refine mm_get hC hM (k := 5) hp_this.1 rfl inAX13 (by decide) q7_10 rfl dX13_drops_15 ?_
    refine lv_iconst (v := 4) hx hb dX13_drops_18 (by decide) ?_
    refine lv_dup2_11 hx hb dX13_drops_19 rfl rfl ?_
    refine mm_ialdN (N := 4) hC hM (hp_this.2.1) (by decide) (by unfold vp_in; decide) dX13_drops_20 ?_
    refine lv_iconst (v := 1) hx hb dX13_drops_21 (by decide) ?_
    refine lv_isub hx hb dX13_drops_22 ?_
    refine mm_iastN (N := 4) hC hM (hp_this.2.1) (by decide) (by unfold vp_in; decide) dX13_drops_23 (fun w23 H locs hM hm => ?_)
    have hp_this : At13 G w23 b thrown changes errorAt failedAt isSaved (upd v 4 ((v 4) - 1)) before saved past far scratch best thenX thenY thenMet text line isLeft words wordAt textN hereP endP lineN isWrong isDoing := ⟨hm.keep (hp_this.1) (by omega), hm.1, hm.keep (hp_this.2.2.1) (by omega), hm.keep (hp_this.2.2.2.1) (by omega), hm.keep (hp_this.2.2.2.2.1) (by omega), hm.keep (hp_this.2.2.2.2.2.1) (by omega), hm.keep (hp_this.2.2.2.2.2.2.1) (by omega), hm.keep (hp_this.2.2.2.2.2.2.2.1) (by omega), hm.keep (hp_this.2.2.2.2.2.2.2.2.1) (by omega), hm.keep (hp_this.2.2.2.2.2.2.2.2.2.1) (by omega), hm.keep (hp_this.2.2.2.2.2.2.2.2.2.2.1) (by omega), hm.keep (hp_this.2.2.2.2.2.2.2.2.2.2.2.1) (by omega), hm.keep (hp_this.2.2.2.2.2.2.2.2.2.2.2.2) (by omega)⟩
    have hF := hF.tr (hm.fr (by omega) (by omega))
    refine lv_iload_n hx hb dX13_drops_24 rfl (lv_at hl 1 rfl) ?_
    refine lv_istore_n (lv' := [(2, .int x1), (0, .ref b), (1, .int x1)]) hx hb dX13_drops_25 rfl hl (by decide) rfl (fun ls hl => ?_)
    have L26 : ∀ (n : Nat) (L26_x2 : Int32) (L26_v : Nat → Int32) (X : Nat → Int32), f_X13_drops_L26 n L26_x2 L26_v = some X → ∀ (L26_w : va_W) (H : Heap) (locs : List Loc), mm_S G A s.heap L26_w H locs → At13 G L26_w b thrown changes errorAt failedAt isSaved L26_v before saved past far scratch best thenX thenY thenMet text line isLeft words wordAt textN hereP endP lineN isWrong isDoing → mm_fr w L26_w b (b + 13) → ∀ (ls : Array Slot), lv_has ls 3 [(0, .ref b), (2, .int L26_x2)] → (∀ (w9 : va_W) (H : Heap) (locs : List Loc), mm_S G A s.heap w9 H locs → At13 G w9 b thrown changes errorAt failedAt isSaved X before saved past far scratch best thenX thenY thenMet text line isLeft words wordAt textN hereP endP lineN isWrong isDoing → mm_fr w w9 b (b + 13) → ∀ (ls : Array Slot), lv_has ls 3 [(0, .ref b)] → W p l e ({ frames := 2, cells := 0, slots := 0, locals := 43 } : Room) s m args below meth c H locs 0 0 Q (F0 m 64 ls [])) → W p l e ({ frames := 2, cells := 0, slots := 0, locals := 43 } : Room) s m args below meth c H locs 0 0 Q (F0 m 26 ls []) := by
      intro n
      induction n with
      | zero => intro L26_x2 L26_v X hf; cases hf
      | succ n ih =>
        intro L26_x2 L26_v X hf L26_w H locs hM hp_this hF ls hl hk
        rw [f_X13_drops_L26] at hf
        refine lv_iload_n hx hb dX13_drops_26 rfl (lv_at hl 1 rfl) ?_
        refine lv_aload_n hx hb dX13_drops_27 rfl (lv_at hl 0 rfl) ?_
        refine mm_get hC hM (k := 5) hp_this.1 rfl inAX13 (by decide) q7_10 rfl dX13_drops_28 ?_
        refine lv_iconst (v := 4) hx hb dX13_drops_31 (by decide) ?_
        refine mm_ialdN (N := 4) hC hM (hp_this.2.1) (by decide) (by unfold vp_in; decide) dX13_drops_32 ?_
        refine lv_icmp_ge (tgt := 64) hx hb dX13_drops_33 (by decide) (fun hcd => ?_) (fun hcd => ?_)
        · rw [if_pos hcd] at hf
          cases hf
          exact hk _ _ _ hM hp_this hF _ (lv_sub hl [0] rfl)
        · rw [if_neg hcd] at hf
          refine lv_aload_n hx hb dX13_drops_36 rfl (lv_at hl 0 rfl) ?_
          refine mm_get hC hM (k := 5) hp_this.1 rfl inAX13 (by decide) q7_10 rfl dX13_drops_37 ?_
          refine lv_sipush (v := 230) hx hb dX13_drops_40 (by decide) ?_
          refine lv_iload_n hx hb dX13_drops_43 rfl (lv_at hl 1 rfl) ?_
          refine lv_iadd hx hb dX13_drops_44 ?_
          refine lv_aload_n hx hb dX13_drops_45 rfl (lv_at hl 0 rfl) ?_
          refine mm_get hC hM (k := 5) hp_this.1 rfl inAX13 (by decide) q7_10 rfl dX13_drops_46 ?_
          refine lv_sipush (v := 230) hx hb dX13_drops_49 (by decide) ?_
          refine lv_iload_n hx hb dX13_drops_52 rfl (lv_at hl 1 rfl) ?_
          refine lv_iadd hx hb dX13_drops_53 ?_
          refine lv_iconst (v := 1) hx hb dX13_drops_54 (by decide) ?_
          refine lv_iadd hx hb dX13_drops_55 ?_
          obtain ⟨hg56, hf⟩ := mm_gd hf
          refine mm_iald hC hM (hp_this.2.1) hg56 dX13_drops_56 ?_
          obtain ⟨hg57, hf⟩ := mm_gd hf
          refine mm_iast hC hM (hp_this.2.1) hg57 dX13_drops_57 (fun w57 H locs hM hm => ?_)
          have hp_this : At13 G w57 b thrown changes errorAt failedAt isSaved (upd L26_v ((230 + L26_x2).toNatClampNeg) (L26_v ((230 + L26_x2) + 1).toNatClampNeg)) before saved past far scratch best thenX thenY thenMet text line isLeft words wordAt textN hereP endP lineN isWrong isDoing := ⟨hm.keep (hp_this.1) (by omega), hm.1, hm.keep (hp_this.2.2.1) (by omega), hm.keep (hp_this.2.2.2.1) (by omega), hm.keep (hp_this.2.2.2.2.1) (by omega), hm.keep (hp_this.2.2.2.2.2.1) (by omega), hm.keep (hp_this.2.2.2.2.2.2.1) (by omega), hm.keep (hp_this.2.2.2.2.2.2.2.1) (by omega), hm.keep (hp_this.2.2.2.2.2.2.2.2.1) (by omega), hm.keep (hp_this.2.2.2.2.2.2.2.2.2.1) (by omega), hm.keep (hp_this.2.2.2.2.2.2.2.2.2.2.1) (by omega), hm.keep (hp_this.2.2.2.2.2.2.2.2.2.2.2.1) (by omega), hm.keep (hp_this.2.2.2.2.2.2.2.2.2.2.2.2) (by omega)⟩
          have hF := hF.tr (hm.fr (by omega) (by omega))
          refine lv_iinc (v := (L26_x2 + 1)) (lv' := [(2, .int (L26_x2 + 1)), (0, .ref b)]) hx hb dX13_drops_58 hl (k := 1) rfl rfl (by decide) rfl (fun ls hl => ?_)
          refine lv_goto (tgt := 26) hx hb dX13_drops_61 (by decide) ?_
          exact ih _ _ _ hf _ _ _ hM hp_this hF _ (lv_sub hl [1, 0] rfl) hk
    obtain ⟨q26, hq26, hf⟩ := mm_bd hf
    refine L26 K _ _ _ hq26 _ _ _ hM hp_this hF _ (lv_sub hl [1, 0] rfl) (fun w26 H locs hM hp_this hF ls hl => ?_)
    refine lv_aload_n hx hb dX13_drops_64 rfl (lv_at hl 0 rfl) ?_
    refine mm_get hC hM (k := 5) hp_this.1 rfl inAX13 (by decide) q7_10 rfl dX13_drops_65 ?_
    refine lv_sipush (v := 230) hx hb dX13_drops_68 (by decide) ?_
    refine lv_aload_n hx hb dX13_drops_71 rfl (lv_at hl 0 rfl) ?_
    refine mm_get hC hM (k := 5) hp_this.1 rfl inAX13 (by decide) q7_10 rfl dX13_drops_72 ?_
    refine lv_iconst (v := 4) hx hb dX13_drops_75 (by decide) ?_
    refine mm_ialdN (N := 4) hC hM (hp_this.2.1) (by decide) (by unfold vp_in; decide) dX13_drops_76 ?_
    refine lv_iadd hx hb dX13_drops_77 ?_
    refine lv_iconst (v := 0) hx hb dX13_drops_78 (by decide) ?_
    obtain ⟨hg79, hf⟩ := mm_gd hf
    refine mm_iast hC hM (hp_this.2.1) hg79 dX13_drops_79 (fun w79 H locs hM hm => ?_)
    have hp_this : At13 G w79 b thrown changes errorAt failedAt isSaved (upd q26 ((230 + (q26 4)).toNatClampNeg) 0) before saved past far scratch best thenX thenY thenMet text line isLeft words wordAt textN hereP endP lineN isWrong isDoing := ⟨hm.keep (hp_this.1) (by omega), hm.1, hm.keep (hp_this.2.2.1) (by omega), hm.keep (hp_this.2.2.2.1) (by omega), hm.keep (hp_this.2.2.2.2.1) (by omega), hm.keep (hp_this.2.2.2.2.2.1) (by omega), hm.keep (hp_this.2.2.2.2.2.2.1) (by omega), hm.keep (hp_this.2.2.2.2.2.2.2.1) (by omega), hm.keep (hp_this.2.2.2.2.2.2.2.2.1) (by omega), hm.keep (hp_this.2.2.2.2.2.2.2.2.2.1) (by omega), hm.keep (hp_this.2.2.2.2.2.2.2.2.2.2.1) (by omega), hm.keep (hp_this.2.2.2.2.2.2.2.2.2.2.2.1) (by omega), hm.keep (hp_this.2.2.2.2.2.2.2.2.2.2.2.2) (by omega)⟩
    have hF := hF.tr (hm.fr (by omega) (by omega))
    refine lv_aload_n hx hb dX13_drops_80 rfl (lv_at hl 0 rfl) ?_
    refine mm_get hC hM (k := 5) hp_this.1 rfl inAX13 (by decide) q7_10 rfl dX13_drops_81 ?_
    refine lv_iconst (v := 4) hx hb dX13_drops_84 (by decide) ?_
    refine mm_ialdN (N := 4) hC hM (hp_this.2.1) (by decide) (by unfold vp_in; decide) dX13_drops_85 ?_
    cases hf
    exact hret hM dX13_drops_86 rfl ⟨rfl, hp_this, hF⟩
  · rw [if_pos hcd] at hf
    refine lv_aload_n hx hb dX13_drops_8 rfl (lv_at hl 0 rfl) ?_
    refine lv_iconst (v := 1) hx hb dX13_drops_9 (by decide) ?_
    obtain ⟨q10, hq10, hf⟩ := mm_bd hf
    refine mm_Vi (rest := []) hC hM (c_X13_fail l hq10 hp_this) q7_112 q1_12 ykX13_fail q7_109 q7_111 qp_bcc4f98e hp_this.1 rfl ⟨rfl, rfl⟩ ⟨Nat.le_of_ble_eq_true rfl, Nat.le_of_ble_eq_true rfl⟩ rfl hl.1 rfl (Nat.le_of_ble_eq_true rfl) dX13_drops_10 ⟨Nat.le_of_ble_eq_true rfl, Nat.le_of_ble_eq_true rfl⟩ (fun r w10 H locs hM hw => ?_)
    obtain ⟨hr, hn_this, hfr⟩ := hw
    rw [hr]
    have hp_this := hn_this
    have hF := hF.tr (hfr.wide (by omega) (by omega))
    cases hf
    exact hret hM dX13_drops_13 rfl ⟨rfl, hp_this, hF⟩
def f_X13_removeLanding (K : Nat) (changes : Int32) (v : Nat → Int32) (before : Nat → Int32) (past : Nat → Int32) (x1 : Int32) : Option (Int32 × Int32 × Int32 × (Nat → Int32) × (Nat → Int32) × (Nat → Int32)) := (f_X13_begins K v before).bind fun q1 => (f_X13_drops K q1.1 v x1).bind fun q7 => (f_X13_ends K q7.2.1 changes q7.2.2 q1.2 past q7.1).bind fun q10 => some (q10.1, q7.2.1, q10.2.1, q10.2.2.1, q1.2, q10.2.2.2)
set_option maxHeartbeats 4000000 in
set_option maxRecDepth 100000 in
theorem c_X13_removeLanding (l : Launch) {G : mm_G} {K : Nat} {w : va_W} {sz : Nat} {b : Nat} {thrown : Int32} {changes : Int32} {errorAt : Int32} {failedAt : Int32} {isSaved : Int32} {v : Nat → Int32} {before : Nat → Int32} {saved : Nat → Int32} {past : Nat → Int32} {far : Nat → Int32} {scratch : Nat → Int32} {best : Nat → Int32} {thenX : Int32} {thenY : Int32} {thenMet : Int32} {text : Nat → Int32} {line : Nat → Int32} {isLeft : Nat → Int32} {words : Nat → Int32} {wordAt : Nat → Int32} {textN : Int32} {hereP : Int32} {endP : Int32} {lineN : Int32} {isWrong : Int32} {isDoing : Int32} {x1 : Int32} {X : Int32 × Int32 × Int32 × (Nat → Int32) × (Nat → Int32) × (Nat → Int32)} (hf : f_X13_removeLanding K changes v before past x1 = some X) (hp_this : At13 G w b thrown changes errorAt failedAt isSaved v before saved past far scratch best thenX thenY thenMet text line isLeft words wordAt textN hereP endP lineN isWrong isDoing) : Met l yX13_removeLanding (Cond.code yX13_removeLanding cX13_removeLanding 2 (some .int) :: gAll) ({ frames := 3, cells := 0, slots := 0, locals := 65 }) (va_Pc [.ref b, .int x1] (mm_Pre G w sz)) (mm_Qi G w sz (fun r w' => r = X.1 ∧ At13 G w' b X.2.1 X.2.2.1 errorAt failedAt isSaved X.2.2.2.1 X.2.2.2.2.1 saved X.2.2.2.2.2 far scratch best thenX thenY thenMet text line isLeft words wordAt textN hereP endP lineN isWrong isDoing ∧ mm_fr w w' b (b + 13))) 0 0 (va_A w sz) := by
  refine mm_headI [.ref b, .int x1] (by decide +kernel) rfl (Nat.le_of_ble_eq_true rfl) ?_
  intro p e s m args below meth c A Q hsz hC hM hret ls hl
  have hx := hC.1.1
  have hb := hC.1.2.1
  have hl : lv_has ls 2 [(0, .ref b), (1, .int x1)] := hl
  have hF : mm_fr w w b (b + 13) := mm_fr.rf
  rw [f_X13_removeLanding] at hf
  refine lv_aload_n hx hb dX13_removeLanding_0 rfl (lv_at hl 0 rfl) ?_
  obtain ⟨q1, hq1, hf⟩ := mm_bd hf
  refine mm_Vv (rest := []) hC hM (c_X13_begins l hq1 hp_this) q7_95 q1_12 ykX13_begins q7_92 q7_94 qp_0e68fe50 hp_this.1 rfl ⟨rfl, rfl⟩ ⟨Nat.le_of_ble_eq_true rfl, Nat.le_of_ble_eq_true rfl⟩ rfl hl.1 rfl (Nat.le_of_ble_eq_true rfl) dX13_removeLanding_1 ⟨Nat.le_of_ble_eq_true rfl, Nat.le_of_ble_eq_true rfl⟩ (fun w1 H locs hM hw => ?_)
  obtain ⟨hn_this, hfr⟩ := hw
  have hp_this := hn_this
  have hF := hF.tr (hfr.wide (by omega) (by omega))
  refine lv_aload_n hx hb dX13_removeLanding_4 rfl (lv_at hl 0 rfl) ?_
  refine lv_aload_n hx hb dX13_removeLanding_5 rfl (lv_at hl 0 rfl) ?_
  refine lv_iload_n hx hb dX13_removeLanding_6 rfl (lv_at hl 1 rfl) ?_
  obtain ⟨q7, hq7, hf⟩ := mm_bd hf
  refine mm_Vi (rest := [.ref b]) hC hM (c_X13_drops l hq7 hp_this) q8_182 q1_12 ykX13_drops q8_179 q8_181 qp_61c31b03 hp_this.1 rfl ⟨rfl, rfl⟩ ⟨Nat.le_of_ble_eq_true rfl, Nat.le_of_ble_eq_true rfl⟩ rfl hl.1 rfl (Nat.le_of_ble_eq_true rfl) dX13_removeLanding_7 ⟨Nat.le_of_ble_eq_true rfl, Nat.le_of_ble_eq_true rfl⟩ (fun r w7 H locs hM hw => ?_)
  obtain ⟨hr, hn_this, hfr⟩ := hw
  rw [hr]
  have hp_this := hn_this
  have hF := hF.tr (hfr.wide (by omega) (by omega))
  obtain ⟨q10, hq10, hf⟩ := mm_bd hf
  refine mm_Vi (rest := []) hC hM (c_X13_ends l hq10 hp_this) q7_133 q1_12 ykX13_ends q7_130 q7_132 qp_952383d2 hp_this.1 rfl ⟨rfl, rfl⟩ ⟨Nat.le_of_ble_eq_true rfl, Nat.le_of_ble_eq_true rfl⟩ rfl hl.1 rfl (Nat.le_of_ble_eq_true rfl) dX13_removeLanding_10 ⟨Nat.le_of_ble_eq_true rfl, Nat.le_of_ble_eq_true rfl⟩ (fun r w10 H locs hM hw => ?_)
  obtain ⟨hr, hn_this, hfr⟩ := hw
  rw [hr]
  have hp_this := hn_this
  have hF := hF.tr (hfr.wide (by omega) (by omega))
  cases hf
  exact hret hM dX13_removeLanding_13 rfl ⟨rfl, hp_this, hF⟩
def f_X13_landingCount (v : Nat → Int32) : Option (Int32 × Int32) := (f_X13_tells v 4).bind fun q2 => some (q2.1, q2.2)
set_option maxHeartbeats 4000000 in
set_option maxRecDepth 100000 in
theorem c_X13_landingCount (l : Launch) {G : mm_G} {w : va_W} {sz : Nat} {b : Nat} {thrown : Int32} {changes : Int32} {errorAt : Int32} {failedAt : Int32} {isSaved : Int32} {v : Nat → Int32} {before : Nat → Int32} {saved : Nat → Int32} {past : Nat → Int32} {far : Nat → Int32} {scratch : Nat → Int32} {best : Nat → Int32} {thenX : Int32} {thenY : Int32} {thenMet : Int32} {text : Nat → Int32} {line : Nat → Int32} {isLeft : Nat → Int32} {words : Nat → Int32} {wordAt : Nat → Int32} {textN : Int32} {hereP : Int32} {endP : Int32} {lineN : Int32} {isWrong : Int32} {isDoing : Int32} {X : Int32 × Int32} (hf : f_X13_landingCount v = some X) (hp_this : At13 G w b thrown changes errorAt failedAt isSaved v before saved past far scratch best thenX thenY thenMet text line isLeft words wordAt textN hereP endP lineN isWrong isDoing) : Met l yX13_landingCount (Cond.code yX13_landingCount cX13_landingCount 1 (some .int) :: gAll) ({ frames := 1, cells := 0, slots := 0, locals := 21 }) (va_Pc [.ref b] (mm_Pre G w sz)) (mm_Qi G w sz (fun r w' => r = X.1 ∧ At13 G w' b X.2 changes errorAt failedAt isSaved v before saved past far scratch best thenX thenY thenMet text line isLeft words wordAt textN hereP endP lineN isWrong isDoing ∧ mm_fr w w' b (b + 13))) 0 0 (va_A w sz) := by
  refine mm_headI [.ref b] (by decide +kernel) rfl (Nat.le_of_ble_eq_true rfl) ?_
  intro p e s m args below meth c A Q hsz hC hM hret ls hl
  have hx := hC.1.1
  have hb := hC.1.2.1
  have hl : lv_has ls 1 [(0, .ref b)] := hl
  have hF : mm_fr w w b (b + 13) := mm_fr.rf
  rw [f_X13_landingCount] at hf
  refine lv_aload_n hx hb dX13_landingCount_0 rfl (lv_at hl 0 rfl) ?_
  refine lv_iconst (v := 4) hx hb dX13_landingCount_1 (by decide) ?_
  obtain ⟨q2, hq2, hf⟩ := mm_bd hf
  refine mm_Vi (rest := []) hC hM (c_X13_tells l hq2 hp_this) q7_177 q1_12 ykX13_tells q7_174 q7_176 qp_3beb7552 hp_this.1 rfl ⟨rfl, rfl⟩ ⟨Nat.le_of_ble_eq_true rfl, Nat.le_of_ble_eq_true rfl⟩ rfl hl.1 rfl (Nat.le_of_ble_eq_true rfl) dX13_landingCount_2 ⟨Nat.le_of_ble_eq_true rfl, Nat.le_of_ble_eq_true rfl⟩ (fun r w2 H locs hM hw => ?_)
  obtain ⟨hr, hn_this, hfr⟩ := hw
  rw [hr]
  have hp_this := hn_this
  have hF := hF.tr (hfr.wide (by omega) (by omega))
  cases hf
  exact hret hM dX13_landingCount_5 rfl ⟨rfl, hp_this, hF⟩
def f_X13_apart (x0 : Int32) (x1 : Int32) : Option (Int32) := if 0 ≤ ((x0 - x0 / 9 * 9) - (x1 - x1 / 9 * 9)) then if 0 ≤ ((x0 / 9) - (x1 / 9)) then some (((x0 - x0 / 9 * 9) - (x1 - x1 / 9 * 9)) + ((x0 / 9) - (x1 / 9))) else some (((x0 - x0 / 9 * 9) - (x1 - x1 / 9 * 9)) + (-((x0 / 9) - (x1 / 9)))) else if 0 ≤ ((x0 / 9) - (x1 / 9)) then some ((-((x0 - x0 / 9 * 9) - (x1 - x1 / 9 * 9))) + ((x0 / 9) - (x1 / 9))) else some ((-((x0 - x0 / 9 * 9) - (x1 - x1 / 9 * 9))) + (-((x0 / 9) - (x1 / 9))))
set_option maxHeartbeats 4000000 in
set_option maxRecDepth 100000 in
theorem c_X13_apart (l : Launch) {G : mm_G} {w : va_W} {sz : Nat} {x0 : Int32} {x1 : Int32} {X : Int32} (hf : f_X13_apart x0 x1 = some X) : Met l yX13_apart (Cond.code yX13_apart cX13_apart 4 (some .int) :: gAll) ({ frames := 0, cells := 0, slots := 0, locals := 0 }) (va_Pc [.int x0, .int x1] (mm_Pre G w sz)) (mm_Qi G w sz (fun r w' => r = X ∧ w' = w)) 0 0 (va_A w sz) := by
  refine mm_headI [.int x0, .int x1] (by decide +kernel) rfl (Nat.le_of_ble_eq_true rfl) ?_
  intro p e s m args below meth c A Q hsz hC hM hret ls hl
  have hx := hC.1.1
  have hb := hC.1.2.1
  have hl : lv_has ls 4 [(0, .int x0), (1, .int x1)] := hl
  rw [f_X13_apart] at hf
  refine lv_iload_n hx hb dX13_apart_0 rfl (lv_at hl 0 rfl) ?_
  refine lv_bipush (v := 9) hx hb dX13_apart_1 (by decide) ?_
  refine lv_irem hx hb dX13_apart_3 (by decide) ?_
  refine lv_iload_n hx hb dX13_apart_4 rfl (lv_at hl 1 rfl) ?_
  refine lv_bipush (v := 9) hx hb dX13_apart_5 (by decide) ?_
  refine lv_irem hx hb dX13_apart_7 (by decide) ?_
  refine lv_isub hx hb dX13_apart_8 ?_
  refine lv_istore_n (lv' := [(2, .int ((x0 - x0 / 9 * 9) - (x1 - x1 / 9 * 9))), (0, .int x0), (1, .int x1)]) hx hb dX13_apart_9 rfl hl (by decide) rfl (fun ls hl => ?_)
  refine lv_iload_n hx hb dX13_apart_10 rfl (lv_at hl 1 rfl) ?_
  refine lv_bipush (v := 9) hx hb dX13_apart_11 (by decide) ?_
  refine lv_idiv hx hb dX13_apart_13 (by decide) ?_
  refine lv_iload_n hx hb dX13_apart_14 rfl (lv_at hl 2 rfl) ?_
  refine lv_bipush (v := 9) hx hb dX13_apart_15 (by decide) ?_
  refine lv_idiv hx hb dX13_apart_17 (by decide) ?_
  refine lv_isub hx hb dX13_apart_18 ?_
  refine lv_istore_n (lv' := [(3, .int ((x0 / 9) - (x1 / 9))), (2, .int ((x0 - x0 / 9 * 9) - (x1 - x1 / 9 * 9))), (0, .int x0), (1, .int x1)]) hx hb dX13_apart_19 rfl hl (by decide) rfl (fun ls hl => ?_)
  refine lv_iload_n hx hb dX13_apart_20 rfl (lv_at hl 1 rfl) ?_
  refine lv_if_ge (tgt := 29) hx hb dX13_apart_21 (by decide) (fun hcd => ?_) (fun hcd => ?_)
  · rw [if_pos hcd] at hf
    refine lv_iload_n hx hb dX13_apart_29 rfl (lv_at hl 1 rfl) ?_
    refine lv_iload_n hx hb dX13_apart_30 rfl (lv_at hl 0 rfl) ?_
    refine lv_if_ge (tgt := 39) hx hb dX13_apart_31 (by decide) (fun hcd => ?_) (fun hcd => ?_)
    · rw [if_pos hcd] at hf
      refine lv_iload_n hx hb dX13_apart_39 rfl (lv_at hl 0 rfl) ?_
      refine lv_iadd hx hb dX13_apart_40 ?_
      cases hf
      exact hret hM dX13_apart_41 rfl ⟨rfl, rfl⟩
    · rw [if_neg hcd] at hf
      refine lv_iload_n hx hb dX13_apart_34 rfl (lv_at hl 0 rfl) ?_
      refine lv_ineg hx hb dX13_apart_35 ?_
      refine lv_goto (tgt := 40) hx hb dX13_apart_36 (by decide) ?_
      refine lv_iadd hx hb dX13_apart_40 ?_
      cases hf
      exact hret hM dX13_apart_41 rfl ⟨rfl, rfl⟩
  · rw [if_neg hcd] at hf
    refine lv_iload_n hx hb dX13_apart_24 rfl (lv_at hl 1 rfl) ?_
    refine lv_ineg hx hb dX13_apart_25 ?_
    refine lv_goto (tgt := 30) hx hb dX13_apart_26 (by decide) ?_
    refine lv_iload_n hx hb dX13_apart_30 rfl (lv_at hl 0 rfl) ?_
    refine lv_if_ge (tgt := 39) hx hb dX13_apart_31 (by decide) (fun hcd => ?_) (fun hcd => ?_)
    · rw [if_pos hcd] at hf
      refine lv_iload_n hx hb dX13_apart_39 rfl (lv_at hl 0 rfl) ?_
      refine lv_iadd hx hb dX13_apart_40 ?_
      cases hf
      exact hret hM dX13_apart_41 rfl ⟨rfl, rfl⟩
    · rw [if_neg hcd] at hf
      refine lv_iload_n hx hb dX13_apart_34 rfl (lv_at hl 0 rfl) ?_
      refine lv_ineg hx hb dX13_apart_35 ?_
      refine lv_goto (tgt := 40) hx hb dX13_apart_36 (by decide) ?_
      refine lv_iadd hx hb dX13_apart_40 ?_
      cases hf
      exact hret hM dX13_apart_41 rfl ⟨rfl, rfl⟩
def f_X13_pairs (v : Nat → Int32) (x1 : Int32) (x2 : Int32) : Option (Int32) := mm_g (mm_ck (230 + x1) 238) (mm_g (mm_ck (230 + x2) 238) ((f_X13_apart (v (230 + x1).toNatClampNeg) (v (230 + x2).toNatClampNeg)).bind fun q20 => mm_g (mm_ck (230 + x1) 238) (mm_g (mm_ck (230 + x2) 238) ((f_X13_image (v (230 + x2).toNatClampNeg)).bind fun q44 => (f_X13_apart (v (230 + x1).toNatClampNeg) q44).bind fun q47 => if q47 ≤ q20 then some q47 else some q20))))
set_option maxHeartbeats 4000000 in
set_option maxRecDepth 100000 in
theorem c_X13_pairs (l : Launch) {G : mm_G} {w : va_W} {sz : Nat} {b : Nat} {thrown : Int32} {changes : Int32} {errorAt : Int32} {failedAt : Int32} {isSaved : Int32} {v : Nat → Int32} {before : Nat → Int32} {saved : Nat → Int32} {past : Nat → Int32} {far : Nat → Int32} {scratch : Nat → Int32} {best : Nat → Int32} {thenX : Int32} {thenY : Int32} {thenMet : Int32} {text : Nat → Int32} {line : Nat → Int32} {isLeft : Nat → Int32} {words : Nat → Int32} {wordAt : Nat → Int32} {textN : Int32} {hereP : Int32} {endP : Int32} {lineN : Int32} {isWrong : Int32} {isDoing : Int32} {x1 : Int32} {x2 : Int32} {X : Int32} (hf : f_X13_pairs v x1 x2 = some X) (hp_this : At13 G w b thrown changes errorAt failedAt isSaved v before saved past far scratch best thenX thenY thenMet text line isLeft words wordAt textN hereP endP lineN isWrong isDoing) : Met l yX13_pairs (Cond.code yX13_pairs cX13_pairs 5 (some .int) :: gAll) ({ frames := 1, cells := 0, slots := 0, locals := 23 }) (va_Pc [.ref b, .int x1, .int x2] (mm_Pre G w sz)) (mm_Qi G w sz (fun r w' => r = X ∧ w' = w)) 0 0 (va_A w sz) := by
  refine mm_headI [.ref b, .int x1, .int x2] (by decide +kernel) rfl (Nat.le_of_ble_eq_true rfl) ?_
  intro p e s m args below meth c A Q hsz hC hM hret ls hl
  have hx := hC.1.1
  have hb := hC.1.2.1
  have hl : lv_has ls 5 [(0, .ref b), (1, .int x1), (2, .int x2)] := hl
  rw [f_X13_pairs] at hf
  refine lv_aload_n hx hb dX13_pairs_0 rfl (lv_at hl 0 rfl) ?_
  refine mm_get hC hM (k := 5) hp_this.1 rfl inAX13 (by decide) q7_10 rfl dX13_pairs_1 ?_
  refine lv_sipush (v := 230) hx hb dX13_pairs_4 (by decide) ?_
  refine lv_iload_n hx hb dX13_pairs_7 rfl (lv_at hl 1 rfl) ?_
  refine lv_iadd hx hb dX13_pairs_8 ?_
  obtain ⟨hg9, hf⟩ := mm_gd hf
  refine mm_iald hC hM (hp_this.2.1) hg9 dX13_pairs_9 ?_
  refine lv_aload_n hx hb dX13_pairs_10 rfl (lv_at hl 0 rfl) ?_
  refine mm_get hC hM (k := 5) hp_this.1 rfl inAX13 (by decide) q7_10 rfl dX13_pairs_11 ?_
  refine lv_sipush (v := 230) hx hb dX13_pairs_14 (by decide) ?_
  refine lv_iload_n hx hb dX13_pairs_17 rfl (lv_at hl 2 rfl) ?_
  refine lv_iadd hx hb dX13_pairs_18 ?_
  obtain ⟨hg19, hf⟩ := mm_gd hf
  refine mm_iald hC hM (hp_this.2.1) hg19 dX13_pairs_19 ?_
  obtain ⟨q20, hq20, hf⟩ := mm_bd hf
  refine mm_Si (rest := []) hC hM (c_X13_apart l hq20) q8_208 q1_12 ykX13_apart q8_206 q8_207 ⟨rfl, rfl⟩ ⟨Nat.le_of_ble_eq_true rfl, Nat.le_of_ble_eq_true rfl⟩ rfl hl.1 rfl (Nat.le_of_ble_eq_true rfl) dX13_pairs_20 ⟨Nat.le_of_ble_eq_true rfl, Nat.le_of_ble_eq_true rfl⟩ (fun r w20 H locs hM hw => ?_)
  obtain ⟨hr, hw⟩ := hw
  rw [hr]
  rw [hw] at hM
  refine lv_istore_n (lv' := [(3, .int q20), (0, .ref b), (1, .int x1), (2, .int x2)]) hx hb dX13_pairs_23 rfl hl (by decide) rfl (fun ls hl => ?_)
  refine lv_aload_n hx hb dX13_pairs_24 rfl (lv_at hl 1 rfl) ?_
  refine mm_get hC hM (k := 5) hp_this.1 rfl inAX13 (by decide) q7_10 rfl dX13_pairs_25 ?_
  refine lv_sipush (v := 230) hx hb dX13_pairs_28 (by decide) ?_
  refine lv_iload_n hx hb dX13_pairs_31 rfl (lv_at hl 2 rfl) ?_
  refine lv_iadd hx hb dX13_pairs_32 ?_
  obtain ⟨hg33, hf⟩ := mm_gd hf
  refine mm_iald hC hM (hp_this.2.1) hg33 dX13_pairs_33 ?_
  refine lv_aload_n hx hb dX13_pairs_34 rfl (lv_at hl 1 rfl) ?_
  refine mm_get hC hM (k := 5) hp_this.1 rfl inAX13 (by decide) q7_10 rfl dX13_pairs_35 ?_
  refine lv_sipush (v := 230) hx hb dX13_pairs_38 (by decide) ?_
  refine lv_iload_n hx hb dX13_pairs_41 rfl (lv_at hl 3 rfl) ?_
  refine lv_iadd hx hb dX13_pairs_42 ?_
  obtain ⟨hg43, hf⟩ := mm_gd hf
  refine mm_iald hC hM (hp_this.2.1) hg43 dX13_pairs_43 ?_
  obtain ⟨q44, hq44, hf⟩ := mm_bd hf
  refine mm_Si (rest := [.int (v (230 + x1).toNatClampNeg)]) hC hM (c_X13_image l hq44) q7_129 q1_12 ykX13_image q7_127 q7_128 ⟨rfl, rfl⟩ ⟨Nat.le_of_ble_eq_true rfl, Nat.le_of_ble_eq_true rfl⟩ rfl hl.1 rfl (Nat.le_of_ble_eq_true rfl) dX13_pairs_44 ⟨Nat.le_of_ble_eq_true rfl, Nat.le_of_ble_eq_true rfl⟩ (fun r w44 H locs hM hw => ?_)
  obtain ⟨hr, hw⟩ := hw
  rw [hr]
  rw [hw] at hM
  obtain ⟨q47, hq47, hf⟩ := mm_bd hf
  refine mm_Si (rest := []) hC hM (c_X13_apart l hq47) q8_208 q1_12 ykX13_apart q8_206 q8_207 ⟨rfl, rfl⟩ ⟨Nat.le_of_ble_eq_true rfl, Nat.le_of_ble_eq_true rfl⟩ rfl hl.1 rfl (Nat.le_of_ble_eq_true rfl) dX13_pairs_47 ⟨Nat.le_of_ble_eq_true rfl, Nat.le_of_ble_eq_true rfl⟩ (fun r w47 H locs hM hw => ?_)
  obtain ⟨hr, hw⟩ := hw
  rw [hr]
  rw [hw] at hM
  refine lv_istore (lv' := [(4, .int q47), (3, .int q20), (0, .ref b), (1, .int x1), (2, .int x2)]) hx hb dX13_pairs_50 hl (by decide) rfl (fun ls hl => ?_)
  refine lv_iload_n hx hb dX13_pairs_52 rfl (lv_at hl 1 rfl) ?_
  refine lv_iload hx hb dX13_pairs_53 (lv_at hl 0 rfl) ?_
  refine lv_icmp_ge (tgt := 62) hx hb dX13_pairs_55 (by decide) (fun hcd => ?_) (fun hcd => ?_)
  · rw [if_pos hcd] at hf
    refine lv_iload hx hb dX13_pairs_62 (lv_at hl 0 rfl) ?_
    cases hf
    exact hret hM dX13_pairs_64 rfl ⟨rfl, rfl⟩
  · rw [if_neg hcd] at hf
    refine lv_iload_n hx hb dX13_pairs_58 rfl (lv_at hl 1 rfl) ?_
    refine lv_goto (tgt := 64) hx hb dX13_pairs_59 (by decide) ?_
    cases hf
    exact hret hM dX13_pairs_64 rfl ⟨rfl, rfl⟩
def f_X13_lowest_L2 (x0 : Int32) : Nat → (Int32) → Option (Int32)
  | 0, _ => none
  | n + 1, x1 => if ((x0 >>> (x1 &&& 31)) &&& 1) = 0 then f_X13_lowest_L2 x0 n (x1 + 1) else some x1
def f_X13_lowest (K : Nat) (x0 : Int32) : Option (Int32) := (f_X13_lowest_L2 x0 K 0).bind fun q2 => some q2
set_option maxHeartbeats 4000000 in
set_option maxRecDepth 100000 in
theorem c_X13_lowest (l : Launch) {G : mm_G} {K : Nat} {w : va_W} {sz : Nat} {x0 : Int32} {X : Int32} (hf : f_X13_lowest K x0 = some X) : Met l yX13_lowest (Cond.code yX13_lowest cX13_lowest 2 (some .int) :: gAll) ({ frames := 0, cells := 0, slots := 0, locals := 0 }) (va_Pc [.int x0] (mm_Pre G w sz)) (mm_Qi G w sz (fun r w' => r = X ∧ w' = w)) 0 0 (va_A w sz) := by
  refine mm_headI [.int x0] (by decide +kernel) rfl (Nat.le_of_ble_eq_true rfl) ?_
  intro p e s m args below meth c A Q hsz hC hM hret ls hl
  have hx := hC.1.1
  have hb := hC.1.2.1
  have hl : lv_has ls 2 [(0, .int x0)] := hl
  rw [f_X13_lowest] at hf
  refine lv_iconst (v := 0) hx hb dX13_lowest_0 (by decide) ?_
  refine lv_istore_n (lv' := [(1, .int 0), (0, .int x0)]) hx hb dX13_lowest_1 rfl hl (by decide) rfl (fun ls hl => ?_)
  have L2 : ∀ (n : Nat) (L2_x1 : Int32) (X : Int32), f_X13_lowest_L2 x0 n L2_x1 = some X → ∀ (H : Heap) (locs : List Loc), mm_S G A s.heap w H locs → ∀ (ls : Array Slot), lv_has ls 2 [(0, .int x0), (1, .int L2_x1)] → (∀ (H : Heap) (locs : List Loc), mm_S G A s.heap w H locs → ∀ (ls : Array Slot), lv_has ls 2 [(1, .int X)] → W p l e ({ frames := 0, cells := 0, slots := 0, locals := 0 } : Room) s m args below meth c H locs 0 0 Q (F0 m 16 ls [])) → W p l e ({ frames := 0, cells := 0, slots := 0, locals := 0 } : Room) s m args below meth c H locs 0 0 Q (F0 m 2 ls []) := by
    intro n
    induction n with
    | zero => intro L2_x1 X hf; cases hf
    | succ n ih =>
      intro L2_x1 X hf H locs hM ls hl hk
      rw [f_X13_lowest_L2] at hf
      refine lv_iload_n hx hb dX13_lowest_2 rfl (lv_at hl 0 rfl) ?_
      refine lv_iload_n hx hb dX13_lowest_3 rfl (lv_at hl 1 rfl) ?_
      refine lv_ishr hx hb dX13_lowest_4 ?_
      refine lv_iconst (v := 1) hx hb dX13_lowest_5 (by decide) ?_
      refine lv_iand hx hb dX13_lowest_6 ?_
      refine lv_if_ne (tgt := 16) hx hb dX13_lowest_7 (by decide) (fun hcd => ?_) (fun hcd => ?_)
      · rw [if_neg hcd] at hf
        cases hf
        exact hk _ _ hM _ (lv_sub hl [1] rfl)
      · rw [if_pos hcd] at hf
        refine lv_iinc (v := (L2_x1 + 1)) (lv' := [(1, .int (L2_x1 + 1)), (0, .int x0)]) hx hb dX13_lowest_10 hl (k := 1) rfl rfl (by decide) rfl (fun ls hl => ?_)
        refine lv_goto (tgt := 2) hx hb dX13_lowest_13 (by decide) ?_
        exact ih _ _ hf _ _ hM _ (lv_sub hl [1, 0] rfl) hk
  obtain ⟨q2, hq2, hf⟩ := mm_bd hf
  refine L2 K _ _ hq2 _ _ hM _ (lv_sub hl [1, 0] rfl) (fun H locs hM ls hl => ?_)
  refine lv_iload_n hx hb dX13_lowest_16 rfl (lv_at hl 0 rfl) ?_
  cases hf
  exact hret hM dX13_lowest_17 rfl ⟨rfl, rfl⟩
def f_X13_sets_L38 (v : Nat → Int32) (x1 : Int32) (x2 : Int32) : Nat → (Int32) → (Nat → Int32) → Option (Nat → Int32)
  | 0, _, _ => none
  | n + 1, x3, best => if (v 4) ≤ x3 then some best else if ((x1 >>> (x3 &&& 31)) &&& 1) = 0 then f_X13_sets_L38 v x1 x2 n (x3 + 1) best else (f_X13_pairs v x2 x3).bind fun q62 => mm_g (mm_ck ((x1 &&& (((1 : Int32) <<< (x2 &&& 31)) ^^^ (-1))) &&& (((1 : Int32) <<< (x3 &&& 31)) ^^^ (-1))) 256) (mm_g (mm_ck x1 256) (if (best x1.toNatClampNeg) ≤ (q62 + (best ((x1 &&& (((1 : Int32) <<< (x2 &&& 31)) ^^^ (-1))) &&& (((1 : Int32) <<< (x3 &&& 31)) ^^^ (-1))).toNatClampNeg)) then f_X13_sets_L38 v x1 x2 n (x3 + 1) best else mm_g (mm_ck x1 256) (f_X13_sets_L38 v x1 x2 n (x3 + 1) (upd best x1.toNatClampNeg (q62 + (best ((x1 &&& (((1 : Int32) <<< (x2 &&& 31)) ^^^ (-1))) &&& (((1 : Int32) <<< (x3 &&& 31)) ^^^ (-1))).toNatClampNeg))))))
def f_X13_sets_L9 (K : Nat) (v : Nat → Int32) : Nat → (Int32) → (Nat → Int32) → Option (Nat → Int32)
  | 0, _, _ => none
  | n + 1, x1, best => if ((1 : Int32) <<< ((v 4) &&& 31)) ≤ x1 then some best else (f_X13_lowest K x1).bind fun q22 => mm_g (mm_ck x1 256) ((f_X13_sets_L38 v x1 q22 K (q22 + 1) (upd best x1.toNatClampNeg 100000)).bind fun q38 => f_X13_sets_L9 K v n (x1 + 1) q38)
def f_X13_sets (K : Nat) (v : Nat → Int32) (best : Nat → Int32) : Option (Nat → Int32) := (f_X13_sets_L9 K v K 1 (upd best 0 0)).bind fun q9 => some q9
set_option maxHeartbeats 4000000 in
set_option maxRecDepth 100000 in
theorem c_X13_sets (l : Launch) {G : mm_G} {K : Nat} {w : va_W} {sz : Nat} {b : Nat} {thrown : Int32} {changes : Int32} {errorAt : Int32} {failedAt : Int32} {isSaved : Int32} {v : Nat → Int32} {before : Nat → Int32} {saved : Nat → Int32} {past : Nat → Int32} {far : Nat → Int32} {scratch : Nat → Int32} {best : Nat → Int32} {thenX : Int32} {thenY : Int32} {thenMet : Int32} {text : Nat → Int32} {line : Nat → Int32} {isLeft : Nat → Int32} {words : Nat → Int32} {wordAt : Nat → Int32} {textN : Int32} {hereP : Int32} {endP : Int32} {lineN : Int32} {isWrong : Int32} {isDoing : Int32} {X : Nat → Int32} (hf : f_X13_sets K v best = some X) (hp_this : At13 G w b thrown changes errorAt failedAt isSaved v before saved past far scratch best thenX thenY thenMet text line isLeft words wordAt textN hereP endP lineN isWrong isDoing) : Met l yX13_sets (Cond.code yX13_sets cX13_sets 5 none :: gAll) ({ frames := 2, cells := 0, slots := 0, locals := 47 }) (va_Pc [.ref b] (mm_Pre G w sz)) (mm_Qv G w sz (fun w' => At13 G w' b thrown changes errorAt failedAt isSaved v before saved past far scratch X thenX thenY thenMet text line isLeft words wordAt textN hereP endP lineN isWrong isDoing ∧ mm_fr w w' b (b + 13))) 0 0 (va_A w sz) := by
  refine mm_headV [.ref b] (by decide +kernel) rfl (Nat.le_of_ble_eq_true rfl) ?_
  intro p e s m args below meth c A Q hsz hC hM hret hnm ls hl
  have hx := hC.1.1
  have hb := hC.1.2.1
  have hl : lv_has ls 5 [(0, .ref b)] := hl
  have hF : mm_fr w w b (b + 13) := mm_fr.rf
  rw [f_X13_sets] at hf
  refine lv_aload_n hx hb dX13_sets_0 rfl (lv_at hl 0 rfl) ?_
  refine mm_get hC hM (k := 11) hp_this.1 rfl inAX13 (by decide) q7_16 rfl dX13_sets_1 ?_
  refine lv_iconst (v := 0) hx hb dX13_sets_4 (by decide) ?_
  refine lv_iconst (v := 0) hx hb dX13_sets_5 (by decide) ?_
  refine mm_iastN (N := 0) hC hM (hp_this.2.2.2.2.2.2.2.1) (by decide) (by unfold vp_in; decide) dX13_sets_6 (fun w6 H locs hM hm => ?_)
  have hp_this : At13 G w6 b thrown changes errorAt failedAt isSaved v before saved past far scratch (upd best 0 0) thenX thenY thenMet text line isLeft words wordAt textN hereP endP lineN isWrong isDoing := ⟨hm.keep (hp_this.1) (by omega), hm.keep (hp_this.2.1) (by omega), hm.keep (hp_this.2.2.1) (by omega), hm.keep (hp_this.2.2.2.1) (by omega), hm.keep (hp_this.2.2.2.2.1) (by omega), hm.keep (hp_this.2.2.2.2.2.1) (by omega), hm.keep (hp_this.2.2.2.2.2.2.1) (by omega), hm.1, hm.keep (hp_this.2.2.2.2.2.2.2.2.1) (by omega), hm.keep (hp_this.2.2.2.2.2.2.2.2.2.1) (by omega), hm.keep (hp_this.2.2.2.2.2.2.2.2.2.2.1) (by omega), hm.keep (hp_this.2.2.2.2.2.2.2.2.2.2.2.1) (by omega), hm.keep (hp_this.2.2.2.2.2.2.2.2.2.2.2.2) (by omega)⟩
  have hF := hF.tr (hm.fr (by omega) (by omega))
  refine lv_iconst (v := 1) hx hb dX13_sets_7 (by decide) ?_
  refine lv_istore_n (lv' := [(1, .int 1), (0, .ref b)]) hx hb dX13_sets_8 rfl hl (by decide) rfl (fun ls hl => ?_)
  have L9 : ∀ (n : Nat) (L9_x1 : Int32) (L9_best : Nat → Int32) (X : Nat → Int32), f_X13_sets_L9 K v n L9_x1 L9_best = some X → ∀ (L9_w : va_W) (H : Heap) (locs : List Loc), mm_S G A s.heap L9_w H locs → At13 G L9_w b thrown changes errorAt failedAt isSaved v before saved past far scratch L9_best thenX thenY thenMet text line isLeft words wordAt textN hereP endP lineN isWrong isDoing → mm_fr w L9_w b (b + 13) → ∀ (ls : Array Slot), lv_has ls 5 [(0, .ref b), (1, .int L9_x1)] → (∀ (w9 : va_W) (H : Heap) (locs : List Loc), mm_S G A s.heap w9 H locs → At13 G w9 b thrown changes errorAt failedAt isSaved v before saved past far scratch X thenX thenY thenMet text line isLeft words wordAt textN hereP endP lineN isWrong isDoing → mm_fr w w9 b (b + 13) → ∀ (ls : Array Slot), lv_has ls 5 [] → W p l e ({ frames := 2, cells := 0, slots := 0, locals := 47 } : Room) s m args below meth c H locs 0 0 Q (F0 m 117 ls [])) → W p l e ({ frames := 2, cells := 0, slots := 0, locals := 47 } : Room) s m args below meth c H locs 0 0 Q (F0 m 9 ls []) := by
    intro n
    induction n with
    | zero => intro L9_x1 L9_best X hf; cases hf
    | succ n ih =>
      intro L9_x1 L9_best X hf L9_w H locs hM hp_this hF ls hl hk
      rw [f_X13_sets_L9] at hf
      refine lv_iload_n hx hb dX13_sets_9 rfl (lv_at hl 1 rfl) ?_
      refine lv_iconst (v := 1) hx hb dX13_sets_10 (by decide) ?_
      refine lv_aload_n hx hb dX13_sets_11 rfl (lv_at hl 0 rfl) ?_
      refine mm_get hC hM (k := 5) hp_this.1 rfl inAX13 (by decide) q7_10 rfl dX13_sets_12 ?_
      refine lv_iconst (v := 4) hx hb dX13_sets_15 (by decide) ?_
      refine mm_ialdN (N := 4) hC hM (hp_this.2.1) (by decide) (by unfold vp_in; decide) dX13_sets_16 ?_
      refine lv_ishl hx hb dX13_sets_17 ?_
      refine lv_icmp_ge (tgt := 117) hx hb dX13_sets_18 (by decide) (fun hcd => ?_) (fun hcd => ?_)
      · rw [if_pos hcd] at hf
        cases hf
        exact hk _ _ _ hM hp_this hF _ (lv_sub hl [] rfl)
      · rw [if_neg hcd] at hf
        refine lv_iload_n hx hb dX13_sets_21 rfl (lv_at hl 1 rfl) ?_
        obtain ⟨q22, hq22, hf⟩ := mm_bd hf
        refine mm_Si (rest := []) hC hM (c_X13_lowest l hq22) q8_201 q1_12 ykX13_lowest q8_199 q8_200 ⟨rfl, rfl⟩ ⟨Nat.le_of_ble_eq_true rfl, Nat.le_of_ble_eq_true rfl⟩ rfl hl.1 rfl (Nat.le_of_ble_eq_true rfl) dX13_sets_22 ⟨Nat.le_of_ble_eq_true rfl, Nat.le_of_ble_eq_true rfl⟩ (fun r w22 H locs hM hw => ?_)
        obtain ⟨hr, hw⟩ := hw
        rw [hr]
        rw [hw] at hM
        refine lv_istore_n (lv' := [(2, .int q22), (0, .ref b), (1, .int L9_x1)]) hx hb dX13_sets_25 rfl hl (by decide) rfl (fun ls hl => ?_)
        refine lv_aload_n hx hb dX13_sets_26 rfl (lv_at hl 1 rfl) ?_
        refine mm_get hC hM (k := 11) hp_this.1 rfl inAX13 (by decide) q7_16 rfl dX13_sets_27 ?_
        refine lv_iload_n hx hb dX13_sets_30 rfl (lv_at hl 2 rfl) ?_
        refine lv_ldc hx hb hC.1.2.2.2.1 (hC.1.2.2.2.2 _ q8_126) dX13_sets_31 ?_
        obtain ⟨hg33, hf⟩ := mm_gd hf
        refine mm_iast hC hM (hp_this.2.2.2.2.2.2.2.1) hg33 dX13_sets_33 (fun w33 H locs hM hm => ?_)
        have hp_this : At13 G w33 b thrown changes errorAt failedAt isSaved v before saved past far scratch (upd L9_best L9_x1.toNatClampNeg 100000) thenX thenY thenMet text line isLeft words wordAt textN hereP endP lineN isWrong isDoing := ⟨hm.keep (hp_this.1) (by omega), hm.keep (hp_this.2.1) (by omega), hm.keep (hp_this.2.2.1) (by omega), hm.keep (hp_this.2.2.2.1) (by omega), hm.keep (hp_this.2.2.2.2.1) (by omega), hm.keep (hp_this.2.2.2.2.2.1) (by omega), hm.keep (hp_this.2.2.2.2.2.2.1) (by omega), hm.1, hm.keep (hp_this.2.2.2.2.2.2.2.2.1) (by omega), hm.keep (hp_this.2.2.2.2.2.2.2.2.2.1) (by omega), hm.keep (hp_this.2.2.2.2.2.2.2.2.2.2.1) (by omega), hm.keep (hp_this.2.2.2.2.2.2.2.2.2.2.2.1) (by omega), hm.keep (hp_this.2.2.2.2.2.2.2.2.2.2.2.2) (by omega)⟩
        have hF := hF.tr (hm.fr (by omega) (by omega))
        refine lv_iload_n hx hb dX13_sets_34 rfl (lv_at hl 0 rfl) ?_
        refine lv_iconst (v := 1) hx hb dX13_sets_35 (by decide) ?_
        refine lv_iadd hx hb dX13_sets_36 ?_
        refine lv_istore_n (lv' := [(3, .int (q22 + 1)), (2, .int q22), (0, .ref b), (1, .int L9_x1)]) hx hb dX13_sets_37 rfl hl (by decide) rfl (fun ls hl => ?_)
        have L38 : ∀ (n : Nat) (L38_x3 : Int32) (L38_best : Nat → Int32) (X : Nat → Int32), f_X13_sets_L38 v L9_x1 q22 n L38_x3 L38_best = some X → ∀ (L38_w : va_W) (H : Heap) (locs : List Loc), mm_S G A s.heap L38_w H locs → At13 G L38_w b thrown changes errorAt failedAt isSaved v before saved past far scratch L38_best thenX thenY thenMet text line isLeft words wordAt textN hereP endP lineN isWrong isDoing → mm_fr w L38_w b (b + 13) → ∀ (ls : Array Slot), lv_has ls 5 [(0, .ref b), (1, .int L9_x1), (2, .int q22), (3, .int L38_x3)] → (∀ (w9 : va_W) (H : Heap) (locs : List Loc), mm_S G A s.heap w9 H locs → At13 G w9 b thrown changes errorAt failedAt isSaved v before saved past far scratch X thenX thenY thenMet text line isLeft words wordAt textN hereP endP lineN isWrong isDoing → mm_fr w w9 b (b + 13) → ∀ (ls : Array Slot), lv_has ls 5 [(0, .ref b), (1, .int L9_x1)] → W p l e ({ frames := 2, cells := 0, slots := 0, locals := 47 } : Room) s m args below meth c H locs 0 0 Q (F0 m 111 ls [])) → W p l e ({ frames := 2, cells := 0, slots := 0, locals := 47 } : Room) s m args below meth c H locs 0 0 Q (F0 m 38 ls []) := by
          intro n
          induction n with
          | zero => intro L38_x3 L38_best X hf; cases hf
          | succ n ih =>
            intro L38_x3 L38_best X hf L38_w H locs hM hp_this hF ls hl hk
            rw [f_X13_sets_L38] at hf
            refine lv_iload_n hx hb dX13_sets_38 rfl (lv_at hl 3 rfl) ?_
            refine lv_aload_n hx hb dX13_sets_39 rfl (lv_at hl 0 rfl) ?_
            refine mm_get hC hM (k := 5) hp_this.1 rfl inAX13 (by decide) q7_10 rfl dX13_sets_40 ?_
            refine lv_iconst (v := 4) hx hb dX13_sets_43 (by decide) ?_
            refine mm_ialdN (N := 4) hC hM (hp_this.2.1) (by decide) (by unfold vp_in; decide) dX13_sets_44 ?_
            refine lv_icmp_ge (tgt := 111) hx hb dX13_sets_45 (by decide) (fun hcd => ?_) (fun hcd => ?_)
            · rw [if_pos hcd] at hf
              cases hf
              exact hk _ _ _ hM hp_this hF _ (lv_sub hl [0, 1] rfl)
            · rw [if_neg hcd] at hf
              refine lv_iload_n hx hb dX13_sets_48 rfl (lv_at hl 1 rfl) ?_
              refine lv_iload_n hx hb dX13_sets_49 rfl (lv_at hl 3 rfl) ?_
              refine lv_ishr hx hb dX13_sets_50 ?_
              refine lv_iconst (v := 1) hx hb dX13_sets_51 (by decide) ?_
              refine lv_iand hx hb dX13_sets_52 ?_
              refine lv_if_ne (tgt := 59) hx hb dX13_sets_53 (by decide) (fun hcd => ?_) (fun hcd => ?_)
              · rw [if_neg hcd] at hf
                refine lv_aload_n hx hb dX13_sets_59 rfl (lv_at hl 0 rfl) ?_
                refine lv_iload_n hx hb dX13_sets_60 rfl (lv_at hl 2 rfl) ?_
                refine lv_iload_n hx hb dX13_sets_61 rfl (lv_at hl 3 rfl) ?_
                obtain ⟨q62, hq62, hf⟩ := mm_bd hf
                refine mm_Vi (rest := []) hC hM (c_X13_pairs l hq62 hp_this) q8_205 q1_12 ykX13_pairs q8_202 q8_204 qp_78912423 hp_this.1 rfl ⟨rfl, rfl⟩ ⟨Nat.le_of_ble_eq_true rfl, Nat.le_of_ble_eq_true rfl⟩ rfl hl.1 rfl (Nat.le_of_ble_eq_true rfl) dX13_sets_62 ⟨Nat.le_of_ble_eq_true rfl, Nat.le_of_ble_eq_true rfl⟩ (fun r w62 H locs hM hw => ?_)
                obtain ⟨hr, hw⟩ := hw
                rw [hr]
                rw [hw] at hM
                refine lv_aload_n hx hb dX13_sets_65 rfl (lv_at hl 0 rfl) ?_
                refine mm_get hC hM (k := 11) hp_this.1 rfl inAX13 (by decide) q7_16 rfl dX13_sets_66 ?_
                refine lv_iload_n hx hb dX13_sets_69 rfl (lv_at hl 1 rfl) ?_
                refine lv_iconst (v := 1) hx hb dX13_sets_70 (by decide) ?_
                refine lv_iload_n hx hb dX13_sets_71 rfl (lv_at hl 2 rfl) ?_
                refine lv_ishl hx hb dX13_sets_72 ?_
                refine lv_iconst (v := (-1)) hx hb dX13_sets_73 (by decide) ?_
                refine lv_ixor hx hb dX13_sets_74 ?_
                refine lv_iand hx hb dX13_sets_75 ?_
                refine lv_iconst (v := 1) hx hb dX13_sets_76 (by decide) ?_
                refine lv_iload_n hx hb dX13_sets_77 rfl (lv_at hl 3 rfl) ?_
                refine lv_ishl hx hb dX13_sets_78 ?_
                refine lv_iconst (v := (-1)) hx hb dX13_sets_79 (by decide) ?_
                refine lv_ixor hx hb dX13_sets_80 ?_
                refine lv_iand hx hb dX13_sets_81 ?_
                obtain ⟨hg82, hf⟩ := mm_gd hf
                refine mm_iald hC hM (hp_this.2.2.2.2.2.2.2.1) hg82 dX13_sets_82 ?_
                refine lv_iadd hx hb dX13_sets_83 ?_
                refine lv_istore (lv' := [(4, .int (q62 + (L38_best ((L9_x1 &&& (((1 : Int32) <<< (q22 &&& 31)) ^^^ (-1))) &&& (((1 : Int32) <<< (L38_x3 &&& 31)) ^^^ (-1))).toNatClampNeg))), (0, .ref b), (1, .int L9_x1), (2, .int q22), (3, .int L38_x3)]) hx hb dX13_sets_84 hl (by decide) rfl (fun ls hl => ?_)
                refine lv_iload hx hb dX13_sets_86 (lv_at hl 0 rfl) ?_
                refine lv_aload_n hx hb dX13_sets_88 rfl (lv_at hl 1 rfl) ?_
                refine mm_get hC hM (k := 11) hp_this.1 rfl inAX13 (by decide) q7_16 rfl dX13_sets_89 ?_
                refine lv_iload_n hx hb dX13_sets_92 rfl (lv_at hl 2 rfl) ?_
                obtain ⟨hg93, hf⟩ := mm_gd hf
                refine mm_iald hC hM (hp_this.2.2.2.2.2.2.2.1) hg93 dX13_sets_93 ?_
                refine lv_icmp_ge (tgt := 105) hx hb dX13_sets_94 (by decide) (fun hcd => ?_) (fun hcd => ?_)
                · rw [if_pos hcd] at hf
                  refine lv_iinc (v := (L38_x3 + 1)) (lv' := [(3, .int (L38_x3 + 1)), (4, .int (q62 + (L38_best ((L9_x1 &&& (((1 : Int32) <<< (q22 &&& 31)) ^^^ (-1))) &&& (((1 : Int32) <<< (L38_x3 &&& 31)) ^^^ (-1))).toNatClampNeg))), (0, .ref b), (1, .int L9_x1), (2, .int q22)]) hx hb dX13_sets_105 hl (k := 4) rfl rfl (by decide) rfl (fun ls hl => ?_)
                  refine lv_goto (tgt := 38) hx hb dX13_sets_108 (by decide) ?_
                  exact ih _ _ _ hf _ _ _ hM hp_this hF _ (lv_sub hl [2, 3, 4, 0] rfl) hk
                · rw [if_neg hcd] at hf
                  refine lv_aload_n hx hb dX13_sets_97 rfl (lv_at hl 1 rfl) ?_
                  refine mm_get hC hM (k := 11) hp_this.1 rfl inAX13 (by decide) q7_16 rfl dX13_sets_98 ?_
                  refine lv_iload_n hx hb dX13_sets_101 rfl (lv_at hl 2 rfl) ?_
                  refine lv_iload hx hb dX13_sets_102 (lv_at hl 0 rfl) ?_
                  obtain ⟨hg104, hf⟩ := mm_gd hf
                  refine mm_iast hC hM (hp_this.2.2.2.2.2.2.2.1) hg104 dX13_sets_104 (fun w104 H locs hM hm => ?_)
                  have hp_this : At13 G w104 b thrown changes errorAt failedAt isSaved v before saved past far scratch (upd L38_best L9_x1.toNatClampNeg (q62 + (L38_best ((L9_x1 &&& (((1 : Int32) <<< (q22 &&& 31)) ^^^ (-1))) &&& (((1 : Int32) <<< (L38_x3 &&& 31)) ^^^ (-1))).toNatClampNeg))) thenX thenY thenMet text line isLeft words wordAt textN hereP endP lineN isWrong isDoing := ⟨hm.keep (hp_this.1) (by omega), hm.keep (hp_this.2.1) (by omega), hm.keep (hp_this.2.2.1) (by omega), hm.keep (hp_this.2.2.2.1) (by omega), hm.keep (hp_this.2.2.2.2.1) (by omega), hm.keep (hp_this.2.2.2.2.2.1) (by omega), hm.keep (hp_this.2.2.2.2.2.2.1) (by omega), hm.1, hm.keep (hp_this.2.2.2.2.2.2.2.2.1) (by omega), hm.keep (hp_this.2.2.2.2.2.2.2.2.2.1) (by omega), hm.keep (hp_this.2.2.2.2.2.2.2.2.2.2.1) (by omega), hm.keep (hp_this.2.2.2.2.2.2.2.2.2.2.2.1) (by omega), hm.keep (hp_this.2.2.2.2.2.2.2.2.2.2.2.2) (by omega)⟩
                  have hF := hF.tr (hm.fr (by omega) (by omega))
                  refine lv_iinc (v := (L38_x3 + 1)) (lv' := [(3, .int (L38_x3 + 1)), (4, .int (q62 + (L38_best ((L9_x1 &&& (((1 : Int32) <<< (q22 &&& 31)) ^^^ (-1))) &&& (((1 : Int32) <<< (L38_x3 &&& 31)) ^^^ (-1))).toNatClampNeg))), (0, .ref b), (1, .int L9_x1), (2, .int q22)]) hx hb dX13_sets_105 hl (k := 4) rfl rfl (by decide) rfl (fun ls hl => ?_)
                  refine lv_goto (tgt := 38) hx hb dX13_sets_108 (by decide) ?_
                  exact ih _ _ _ hf _ _ _ hM hp_this hF _ (lv_sub hl [2, 3, 4, 0] rfl) hk
              · rw [if_pos hcd] at hf
                refine lv_goto (tgt := 105) hx hb dX13_sets_56 (by decide) ?_
                refine lv_iinc (v := (L38_x3 + 1)) (lv' := [(3, .int (L38_x3 + 1)), (0, .ref b), (1, .int L9_x1), (2, .int q22)]) hx hb dX13_sets_105 hl (k := 3) rfl rfl (by decide) rfl (fun ls hl => ?_)
                refine lv_goto (tgt := 38) hx hb dX13_sets_108 (by decide) ?_
                exact ih _ _ _ hf _ _ _ hM hp_this hF _ (lv_sub hl [1, 2, 3, 0] rfl) hk
        obtain ⟨q38, hq38, hf⟩ := mm_bd hf
        refine L38 K _ _ _ hq38 _ _ _ hM hp_this hF _ (lv_sub hl [2, 3, 1, 0] rfl) (fun w38 H locs hM hp_this hF ls hl => ?_)
        refine lv_iinc (v := (L9_x1 + 1)) (lv' := [(1, .int (L9_x1 + 1)), (0, .ref b)]) hx hb dX13_sets_111 hl (k := 1) rfl rfl (by decide) rfl (fun ls hl => ?_)
        refine lv_goto (tgt := 9) hx hb dX13_sets_114 (by decide) ?_
        exact ih _ _ _ hf _ _ _ hM hp_this hF _ (lv_sub hl [1, 0] rfl) hk
  obtain ⟨q9, hq9, hf⟩ := mm_bd hf
  refine L9 K _ _ _ hq9 _ _ _ hM hp_this hF _ (lv_sub hl [1, 0] rfl) (fun w9 H locs hM hp_this hF ls hl => ?_)
  cases hf
  exact hret hM dX13_sets_117 ⟨hp_this, hF⟩
def f_X13_pairingCost (K : Nat) (v : Nat → Int32) (best : Nat → Int32) : Option (Int32 × Int32 × (Nat → Int32)) := if ((v 4) - (v 4) / 2 * 2) = 0 then (f_X13_sets K v best).bind fun q22 => mm_g (mm_ck (((1 : Int32) <<< ((v 4) &&& 31)) - 1) 256) (some ((q22 (((1 : Int32) <<< ((v 4) &&& 31)) - 1).toNatClampNeg), ((v 4) - (v 4) / 2 * 2), q22)) else some (0, ((v 4) - (v 4) / 2 * 2), best)
set_option maxHeartbeats 4000000 in
set_option maxRecDepth 100000 in
theorem c_X13_pairingCost (l : Launch) {G : mm_G} {K : Nat} {w : va_W} {sz : Nat} {b : Nat} {thrown : Int32} {changes : Int32} {errorAt : Int32} {failedAt : Int32} {isSaved : Int32} {v : Nat → Int32} {before : Nat → Int32} {saved : Nat → Int32} {past : Nat → Int32} {far : Nat → Int32} {scratch : Nat → Int32} {best : Nat → Int32} {thenX : Int32} {thenY : Int32} {thenMet : Int32} {text : Nat → Int32} {line : Nat → Int32} {isLeft : Nat → Int32} {words : Nat → Int32} {wordAt : Nat → Int32} {textN : Int32} {hereP : Int32} {endP : Int32} {lineN : Int32} {isWrong : Int32} {isDoing : Int32} {X : Int32 × Int32 × (Nat → Int32)} (hf : f_X13_pairingCost K v best = some X) (hp_this : At13 G w b thrown changes errorAt failedAt isSaved v before saved past far scratch best thenX thenY thenMet text line isLeft words wordAt textN hereP endP lineN isWrong isDoing) : Met l yX13_pairingCost (Cond.code yX13_pairingCost cX13_pairingCost 1 (some .int) :: gAll) ({ frames := 3, cells := 0, slots := 0, locals := 71 }) (va_Pc [.ref b] (mm_Pre G w sz)) (mm_Qi G w sz (fun r w' => r = X.1 ∧ At13 G w' b X.2.1 changes errorAt failedAt isSaved v before saved past far scratch X.2.2 thenX thenY thenMet text line isLeft words wordAt textN hereP endP lineN isWrong isDoing ∧ mm_fr w w' b (b + 13))) 0 0 (va_A w sz) := by
  refine mm_headI [.ref b] (by decide +kernel) rfl (Nat.le_of_ble_eq_true rfl) ?_
  intro p e s m args below meth c A Q hsz hC hM hret ls hl
  have hx := hC.1.1
  have hb := hC.1.2.1
  have hl : lv_has ls 1 [(0, .ref b)] := hl
  have hF : mm_fr w w b (b + 13) := mm_fr.rf
  rw [f_X13_pairingCost] at hf
  refine lv_aload_n hx hb dX13_pairingCost_0 rfl (lv_at hl 0 rfl) ?_
  refine lv_aload_n hx hb dX13_pairingCost_1 rfl (lv_at hl 0 rfl) ?_
  refine mm_get hC hM (k := 5) hp_this.1 rfl inAX13 (by decide) q7_10 rfl dX13_pairingCost_2 ?_
  refine lv_iconst (v := 4) hx hb dX13_pairingCost_5 (by decide) ?_
  refine mm_ialdN (N := 4) hC hM (hp_this.2.1) (by decide) (by unfold vp_in; decide) dX13_pairingCost_6 ?_
  refine lv_iconst (v := 2) hx hb dX13_pairingCost_7 (by decide) ?_
  refine lv_irem hx hb dX13_pairingCost_8 (by decide) ?_
  refine mm_put hC hM (k := 0) tyX13 hp_this.1 rfl inAX13 tyX13_ok nmX13 (by decide) q7_5 rfl rfl rfl rfl (Nat.le_of_ble_eq_true rfl) dX13_pairingCost_9 (fun w9 H locs hM hm => ?_)
  have hp_this : At13 G w9 b ((v 4) - (v 4) / 2 * 2) changes errorAt failedAt isSaved v before saved past far scratch best thenX thenY thenMet text line isLeft words wordAt textN hereP endP lineN isWrong isDoing := ⟨hm.1, hm.keep (hp_this.2.1) (by omega), hm.keep (hp_this.2.2.1) (by omega), hm.keep (hp_this.2.2.2.1) (by omega), hm.keep (hp_this.2.2.2.2.1) (by omega), hm.keep (hp_this.2.2.2.2.2.1) (by omega), hm.keep (hp_this.2.2.2.2.2.2.1) (by omega), hm.keep (hp_this.2.2.2.2.2.2.2.1) (by omega), hm.keep (hp_this.2.2.2.2.2.2.2.2.1) (by omega), hm.keep (hp_this.2.2.2.2.2.2.2.2.2.1) (by omega), hm.keep (hp_this.2.2.2.2.2.2.2.2.2.2.1) (by omega), hm.keep (hp_this.2.2.2.2.2.2.2.2.2.2.2.1) (by omega), hm.keep (hp_this.2.2.2.2.2.2.2.2.2.2.2.2) (by omega)⟩
  have hF := hF.tr (hm.fr (by omega) (by omega))
  refine lv_aload_n hx hb dX13_pairingCost_12 rfl (lv_at hl 0 rfl) ?_
  refine mm_get hC hM (k := 0) hp_this.1 rfl inAX13 (by decide) q7_5 rfl dX13_pairingCost_13 ?_
  refine lv_if_eq (tgt := 21) hx hb dX13_pairingCost_16 (by decide) (fun hcd => ?_) (fun hcd => ?_)
  · rw [if_pos hcd] at hf
    refine lv_aload_n hx hb dX13_pairingCost_21 rfl (lv_at hl 0 rfl) ?_
    obtain ⟨q22, hq22, hf⟩ := mm_bd hf
    refine mm_Vv (rest := []) hC hM (c_X13_sets l hq22 hp_this) q8_198 q1_12 ykX13_sets q8_195 q8_197 qp_46f76fb4 hp_this.1 rfl ⟨rfl, rfl⟩ ⟨Nat.le_of_ble_eq_true rfl, Nat.le_of_ble_eq_true rfl⟩ rfl hl.1 rfl (Nat.le_of_ble_eq_true rfl) dX13_pairingCost_22 ⟨Nat.le_of_ble_eq_true rfl, Nat.le_of_ble_eq_true rfl⟩ (fun w22 H locs hM hw => ?_)
    obtain ⟨hn_this, hfr⟩ := hw
    have hp_this := hn_this
    have hF := hF.tr (hfr.wide (by omega) (by omega))
    refine lv_aload_n hx hb dX13_pairingCost_25 rfl (lv_at hl 0 rfl) ?_
    refine mm_get hC hM (k := 11) hp_this.1 rfl inAX13 (by decide) q7_16 rfl dX13_pairingCost_26 ?_
    refine lv_iconst (v := 1) hx hb dX13_pairingCost_29 (by decide) ?_
    refine lv_aload_n hx hb dX13_pairingCost_30 rfl (lv_at hl 0 rfl) ?_
    refine mm_get hC hM (k := 5) hp_this.1 rfl inAX13 (by decide) q7_10 rfl dX13_pairingCost_31 ?_
    refine lv_iconst (v := 4) hx hb dX13_pairingCost_34 (by decide) ?_
    refine mm_ialdN (N := 4) hC hM (hp_this.2.1) (by decide) (by unfold vp_in; decide) dX13_pairingCost_35 ?_
    refine lv_ishl hx hb dX13_pairingCost_36 ?_
    refine lv_iconst (v := 1) hx hb dX13_pairingCost_37 (by decide) ?_
    refine lv_isub hx hb dX13_pairingCost_38 ?_
    obtain ⟨hg39, hf⟩ := mm_gd hf
    refine mm_iald hC hM (hp_this.2.2.2.2.2.2.2.1) hg39 dX13_pairingCost_39 ?_
    cases hf
    exact hret hM dX13_pairingCost_40 rfl ⟨rfl, hp_this, hF⟩
  · rw [if_neg hcd] at hf
    refine lv_iconst (v := 0) hx hb dX13_pairingCost_19 (by decide) ?_
    cases hf
    exact hret hM dX13_pairingCost_20 rfl ⟨rfl, hp_this, hF⟩
def f_X13_pairingCostBySearch (K : Nat) (v : Nat → Int32) (best : Nat → Int32) : Option (Int32 × Int32 × (Nat → Int32)) := (f_X13_pairingCost K v best).bind fun q1 => some (q1.1, q1.2.1, q1.2.2)
set_option maxHeartbeats 4000000 in
set_option maxRecDepth 100000 in
theorem c_X13_pairingCostBySearch (l : Launch) {G : mm_G} {K : Nat} {w : va_W} {sz : Nat} {b : Nat} {thrown : Int32} {changes : Int32} {errorAt : Int32} {failedAt : Int32} {isSaved : Int32} {v : Nat → Int32} {before : Nat → Int32} {saved : Nat → Int32} {past : Nat → Int32} {far : Nat → Int32} {scratch : Nat → Int32} {best : Nat → Int32} {thenX : Int32} {thenY : Int32} {thenMet : Int32} {text : Nat → Int32} {line : Nat → Int32} {isLeft : Nat → Int32} {words : Nat → Int32} {wordAt : Nat → Int32} {textN : Int32} {hereP : Int32} {endP : Int32} {lineN : Int32} {isWrong : Int32} {isDoing : Int32} {X : Int32 × Int32 × (Nat → Int32)} (hf : f_X13_pairingCostBySearch K v best = some X) (hp_this : At13 G w b thrown changes errorAt failedAt isSaved v before saved past far scratch best thenX thenY thenMet text line isLeft words wordAt textN hereP endP lineN isWrong isDoing) : Met l yX13_pairingCostBySearch (Cond.code yX13_pairingCostBySearch cX13_pairingCostBySearch 1 (some .int) :: gAll) ({ frames := 4, cells := 0, slots := 0, locals := 91 }) (va_Pc [.ref b] (mm_Pre G w sz)) (mm_Qi G w sz (fun r w' => r = X.1 ∧ At13 G w' b X.2.1 changes errorAt failedAt isSaved v before saved past far scratch X.2.2 thenX thenY thenMet text line isLeft words wordAt textN hereP endP lineN isWrong isDoing ∧ mm_fr w w' b (b + 13))) 0 0 (va_A w sz) := by
  refine mm_headI [.ref b] (by decide +kernel) rfl (Nat.le_of_ble_eq_true rfl) ?_
  intro p e s m args below meth c A Q hsz hC hM hret ls hl
  have hx := hC.1.1
  have hb := hC.1.2.1
  have hl : lv_has ls 1 [(0, .ref b)] := hl
  have hF : mm_fr w w b (b + 13) := mm_fr.rf
  rw [f_X13_pairingCostBySearch] at hf
  refine lv_aload_n hx hb dX13_pairingCostBySearch_0 rfl (lv_at hl 0 rfl) ?_
  obtain ⟨q1, hq1, hf⟩ := mm_bd hf
  refine mm_Vi (rest := []) hC hM (c_X13_pairingCost l hq1 hp_this) q8_194 q1_12 ykX13_pairingCost q8_213 q8_192 q8_193 hp_this.1 rfl ⟨rfl, rfl⟩ ⟨Nat.le_of_ble_eq_true rfl, Nat.le_of_ble_eq_true rfl⟩ rfl hl.1 rfl (Nat.le_of_ble_eq_true rfl) dX13_pairingCostBySearch_1 ⟨Nat.le_of_ble_eq_true rfl, Nat.le_of_ble_eq_true rfl⟩ (fun r w1 H locs hM hw => ?_)
  obtain ⟨hr, hn_this, hfr⟩ := hw
  rw [hr]
  have hp_this := hn_this
  have hF := hF.tr (hfr.wide (by omega) (by omega))
  cases hf
  exact hret hM dX13_pairingCostBySearch_4 rfl ⟨rfl, hp_this, hF⟩
def f_X13_partnerOf_L71 (v : Nat → Int32) (best : Nat → Int32) (x2 : Int32) (x3 : Int32) : Nat → (Int32) → Option (Int32)
  | 0, _ => none
  | n + 1, x4 => if ((x2 >>> (x4 &&& 31)) &&& 1) = 0 then f_X13_partnerOf_L71 v best x2 x3 n (x4 + 1) else (f_X13_pairs v x3 x4).bind fun q84 => mm_g (mm_ck ((x2 &&& (((1 : Int32) <<< (x3 &&& 31)) ^^^ (-1))) &&& (((1 : Int32) <<< (x4 &&& 31)) ^^^ (-1))) 256) (mm_g (mm_ck x2 256) (if (q84 + (best ((x2 &&& (((1 : Int32) <<< (x3 &&& 31)) ^^^ (-1))) &&& (((1 : Int32) <<< (x4 &&& 31)) ^^^ (-1))).toNatClampNeg)) = (best x2.toNatClampNeg) then some x4 else f_X13_partnerOf_L71 v best x2 x3 n (x4 + 1)))
def f_X13_partnerOf_L57 (K : Nat) (thrown : Int32) (v : Nat → Int32) (best : Nat → Int32) (x1 : Int32) : Nat → (Int32) → Option (Int32 × Int32 × (Nat → Int32))
  | 0, _ => none
  | n + 1, x2 => if x2 = 0 then some (0, thrown, best) else (f_X13_lowest K x2).bind fun q62 => (f_X13_partnerOf_L71 v best x2 q62 K (q62 + 1)).bind fun q71 => if q62 = x1 then some (q71, thrown, best) else if q71 = x1 then some (q62, thrown, best) else f_X13_partnerOf_L57 K thrown v best x1 n ((x2 &&& (((1 : Int32) <<< (q62 &&& 31)) ^^^ (-1))) &&& (((1 : Int32) <<< (q71 &&& 31)) ^^^ (-1)))
def f_X13_partnerOf (K : Nat) (v : Nat → Int32) (best : Nat → Int32) (x1 : Int32) : Option (Int32 × Int32 × (Nat → Int32)) := (f_X13_isLanding v x1).bind fun q3 => if q3 = 0 then some (0, 1, best) else if ((v 4) - (v 4) / 2 * 2) = 1 then some (0, 2, best) else (f_X13_sets K v best).bind fun q43 => f_X13_partnerOf_L57 K 0 v q43 x1 K (((1 : Int32) <<< ((v 4) &&& 31)) - 1)
set_option maxHeartbeats 4000000 in
set_option maxRecDepth 100000 in
theorem c_X13_partnerOf (l : Launch) {G : mm_G} {K : Nat} {w : va_W} {sz : Nat} {b : Nat} {thrown : Int32} {changes : Int32} {errorAt : Int32} {failedAt : Int32} {isSaved : Int32} {v : Nat → Int32} {before : Nat → Int32} {saved : Nat → Int32} {past : Nat → Int32} {far : Nat → Int32} {scratch : Nat → Int32} {best : Nat → Int32} {thenX : Int32} {thenY : Int32} {thenMet : Int32} {text : Nat → Int32} {line : Nat → Int32} {isLeft : Nat → Int32} {words : Nat → Int32} {wordAt : Nat → Int32} {textN : Int32} {hereP : Int32} {endP : Int32} {lineN : Int32} {isWrong : Int32} {isDoing : Int32} {x1 : Int32} {X : Int32 × Int32 × (Nat → Int32)} (hf : f_X13_partnerOf K v best x1 = some X) (hp_this : At13 G w b thrown changes errorAt failedAt isSaved v before saved past far scratch best thenX thenY thenMet text line isLeft words wordAt textN hereP endP lineN isWrong isDoing) : Met l yX13_partnerOf (Cond.code yX13_partnerOf cX13_partnerOf 5 (some .int) :: gAll) ({ frames := 3, cells := 0, slots := 0, locals := 71 }) (va_Pc [.ref b, .int x1] (mm_Pre G w sz)) (mm_Qi G w sz (fun r w' => r = X.1 ∧ At13 G w' b X.2.1 changes errorAt failedAt isSaved v before saved past far scratch X.2.2 thenX thenY thenMet text line isLeft words wordAt textN hereP endP lineN isWrong isDoing ∧ mm_fr w w' b (b + 13))) 0 0 (va_A w sz) := by
  refine mm_headI [.ref b, .int x1] (by decide +kernel) rfl (Nat.le_of_ble_eq_true rfl) ?_
  intro p e s m args below meth c A Q hsz hC hM hret ls hl
  have hx := hC.1.1
  have hb := hC.1.2.1
  have hl : lv_has ls 5 [(0, .ref b), (1, .int x1)] := hl
  have hF : mm_fr w w b (b + 13) := mm_fr.rf
  rw [f_X13_partnerOf] at hf
  refine lv_aload_n hx hb dX13_partnerOf_0 rfl (lv_at hl 0 rfl) ?_
  refine lv_aload_n hx hb dX13_partnerOf_1 rfl (lv_at hl 0 rfl) ?_
  refine lv_iload_n hx hb dX13_partnerOf_2 rfl (lv_at hl 1 rfl) ?_
  obtain ⟨q3, hq3, hf⟩ := mm_bd hf
  refine mm_Vi (rest := [.ref b]) hC hM (c_X13_isLanding l hq3 hp_this) q8_186 q1_12 ykX13_isLanding q8_183 q8_185 qp_b83db358 hp_this.1 rfl ⟨rfl, rfl⟩ ⟨Nat.le_of_ble_eq_true rfl, Nat.le_of_ble_eq_true rfl⟩ rfl hl.1 rfl (Nat.le_of_ble_eq_true rfl) dX13_partnerOf_3 ⟨Nat.le_of_ble_eq_true rfl, Nat.le_of_ble_eq_true rfl⟩ (fun r w3 H locs hM hw => ?_)
  obtain ⟨hr, hw⟩ := hw
  rw [hr]
  rw [hw] at hM
  refine lv_if_ne (tgt := 13) hx hb dX13_partnerOf_6 (by decide) (fun hcd => ?_) (fun hcd => ?_)
  · rw [if_neg hcd] at hf
    refine lv_aload_n hx hb dX13_partnerOf_13 rfl (lv_at hl 0 rfl) ?_
    refine mm_get hC hM (k := 5) hp_this.1 rfl inAX13 (by decide) q7_10 rfl dX13_partnerOf_14 ?_
    refine lv_iconst (v := 4) hx hb dX13_partnerOf_17 (by decide) ?_
    refine mm_ialdN (N := 4) hC hM (hp_this.2.1) (by decide) (by unfold vp_in; decide) dX13_partnerOf_18 ?_
    refine lv_iconst (v := 2) hx hb dX13_partnerOf_19 (by decide) ?_
    refine lv_irem hx hb dX13_partnerOf_20 (by decide) ?_
    refine lv_iconst (v := 1) hx hb dX13_partnerOf_21 (by decide) ?_
    refine lv_icmp_ne (tgt := 29) hx hb dX13_partnerOf_22 (by decide) (fun hcd => ?_) (fun hcd => ?_)
    · rw [if_neg hcd] at hf
      refine lv_iconst (v := 0) hx hb dX13_partnerOf_29 (by decide) ?_
      refine mm_put hC hM (k := 0) tyX13 hp_this.1 rfl inAX13 tyX13_ok nmX13 (by decide) q7_5 rfl rfl rfl rfl (Nat.le_of_ble_eq_true rfl) dX13_partnerOf_30 (fun w30 H locs hM hm => ?_)
      have hp_this : At13 G w30 b 0 changes errorAt failedAt isSaved v before saved past far scratch best thenX thenY thenMet text line isLeft words wordAt textN hereP endP lineN isWrong isDoing := ⟨hm.1, hm.keep (hp_this.2.1) (by omega), hm.keep (hp_this.2.2.1) (by omega), hm.keep (hp_this.2.2.2.1) (by omega), hm.keep (hp_this.2.2.2.2.1) (by omega), hm.keep (hp_this.2.2.2.2.2.1) (by omega), hm.keep (hp_this.2.2.2.2.2.2.1) (by omega), hm.keep (hp_this.2.2.2.2.2.2.2.1) (by omega), hm.keep (hp_this.2.2.2.2.2.2.2.2.1) (by omega), hm.keep (hp_this.2.2.2.2.2.2.2.2.2.1) (by omega), hm.keep (hp_this.2.2.2.2.2.2.2.2.2.2.1) (by omega), hm.keep (hp_this.2.2.2.2.2.2.2.2.2.2.2.1) (by omega), hm.keep (hp_this.2.2.2.2.2.2.2.2.2.2.2.2) (by omega)⟩
      have hF := hF.tr (hm.fr (by omega) (by omega))
      refine lv_aload_n hx hb dX13_partnerOf_33 rfl (lv_at hl 0 rfl) ?_
      refine mm_get hC hM (k := 0) hp_this.1 rfl inAX13 (by decide) q7_5 rfl dX13_partnerOf_34 ?_
      refine lv_if_eq (tgt := 42) hx hb dX13_partnerOf_37 (by decide) (fun _ => ?_) (fun c => absurd (by decide) c)
      refine lv_aload_n hx hb dX13_partnerOf_42 rfl (lv_at hl 0 rfl) ?_
      obtain ⟨q43, hq43, hf⟩ := mm_bd hf
      refine mm_Vv (rest := []) hC hM (c_X13_sets l hq43 hp_this) q8_198 q1_12 ykX13_sets q8_195 q8_197 qp_46f76fb4 hp_this.1 rfl ⟨rfl, rfl⟩ ⟨Nat.le_of_ble_eq_true rfl, Nat.le_of_ble_eq_true rfl⟩ rfl hl.1 rfl (Nat.le_of_ble_eq_true rfl) dX13_partnerOf_43 ⟨Nat.le_of_ble_eq_true rfl, Nat.le_of_ble_eq_true rfl⟩ (fun w43 H locs hM hw => ?_)
      obtain ⟨hn_this, hfr⟩ := hw
      have hp_this := hn_this
      have hF := hF.tr (hfr.wide (by omega) (by omega))
      refine lv_iconst (v := 1) hx hb dX13_partnerOf_46 (by decide) ?_
      refine lv_aload_n hx hb dX13_partnerOf_47 rfl (lv_at hl 0 rfl) ?_
      refine mm_get hC hM (k := 5) hp_this.1 rfl inAX13 (by decide) q7_10 rfl dX13_partnerOf_48 ?_
      refine lv_iconst (v := 4) hx hb dX13_partnerOf_51 (by decide) ?_
      refine mm_ialdN (N := 4) hC hM (hp_this.2.1) (by decide) (by unfold vp_in; decide) dX13_partnerOf_52 ?_
      refine lv_ishl hx hb dX13_partnerOf_53 ?_
      refine lv_iconst (v := 1) hx hb dX13_partnerOf_54 (by decide) ?_
      refine lv_isub hx hb dX13_partnerOf_55 ?_
      refine lv_istore_n (lv' := [(2, .int (((1 : Int32) <<< ((v 4) &&& 31)) - 1)), (0, .ref b), (1, .int x1)]) hx hb dX13_partnerOf_56 rfl hl (by decide) rfl (fun ls hl => ?_)
      have L57 : ∀ (n : Nat) (L57_x2 : Int32), f_X13_partnerOf_L57 K 0 v q43 x1 n L57_x2 = some X → ∀ (H : Heap) (locs : List Loc), mm_S G A s.heap w43 H locs → ∀ (ls : Array Slot), lv_has ls 5 [(0, .ref b), (1, .int x1), (2, .int L57_x2)] → W p l e ({ frames := 3, cells := 0, slots := 0, locals := 71 } : Room) s m args below meth c H locs 0 0 Q (F0 m 57 ls []) := by
        intro n
        induction n with
        | zero => intro L57_x2 hf; cases hf
        | succ n ih =>
          intro L57_x2 hf H locs hM ls hl
          rw [f_X13_partnerOf_L57] at hf
          refine lv_iload_n hx hb dX13_partnerOf_57 rfl (lv_at hl 2 rfl) ?_
          refine lv_if_eq (tgt := 156) hx hb dX13_partnerOf_58 (by decide) (fun hcd => ?_) (fun hcd => ?_)
          · rw [if_pos hcd] at hf
            refine lv_iconst (v := 0) hx hb dX13_partnerOf_156 (by decide) ?_
            cases hf
            exact hret hM dX13_partnerOf_157 rfl ⟨rfl, hp_this, hF⟩
          · rw [if_neg hcd] at hf
            refine lv_iload_n hx hb dX13_partnerOf_61 rfl (lv_at hl 2 rfl) ?_
            obtain ⟨q62, hq62, hf⟩ := mm_bd hf
            refine mm_Si (rest := []) hC hM (c_X13_lowest l hq62) q8_201 q1_12 ykX13_lowest q8_199 q8_200 ⟨rfl, rfl⟩ ⟨Nat.le_of_ble_eq_true rfl, Nat.le_of_ble_eq_true rfl⟩ rfl hl.1 rfl (Nat.le_of_ble_eq_true rfl) dX13_partnerOf_62 ⟨Nat.le_of_ble_eq_true rfl, Nat.le_of_ble_eq_true rfl⟩ (fun r w62 H locs hM hw => ?_)
            obtain ⟨hr, hw⟩ := hw
            rw [hr]
            rw [hw] at hM
            refine lv_istore_n (lv' := [(3, .int q62), (0, .ref b), (1, .int x1), (2, .int L57_x2)]) hx hb dX13_partnerOf_65 rfl hl (by decide) rfl (fun ls hl => ?_)
            refine lv_iload_n hx hb dX13_partnerOf_66 rfl (lv_at hl 0 rfl) ?_
            refine lv_iconst (v := 1) hx hb dX13_partnerOf_67 (by decide) ?_
            refine lv_iadd hx hb dX13_partnerOf_68 ?_
            refine lv_istore (lv' := [(4, .int (q62 + 1)), (3, .int q62), (0, .ref b), (1, .int x1), (2, .int L57_x2)]) hx hb dX13_partnerOf_69 hl (by decide) rfl (fun ls hl => ?_)
            have L71 : ∀ (n : Nat) (L71_x4 : Int32) (X : Int32), f_X13_partnerOf_L71 v q43 L57_x2 q62 n L71_x4 = some X → ∀ (H : Heap) (locs : List Loc), mm_S G A s.heap w43 H locs → ∀ (ls : Array Slot), lv_has ls 5 [(0, .ref b), (1, .int x1), (2, .int L57_x2), (3, .int q62), (4, .int L71_x4)] → (∀ (H : Heap) (locs : List Loc), mm_S G A s.heap w43 H locs → ∀ (ls : Array Slot), lv_has ls 5 [(0, .ref b), (1, .int x1), (2, .int L57_x2), (3, .int q62), (4, .int X)] → W p l e ({ frames := 3, cells := 0, slots := 0, locals := 71 } : Room) s m args below meth c H locs 0 0 Q (F0 m 122 ls [])) → W p l e ({ frames := 3, cells := 0, slots := 0, locals := 71 } : Room) s m args below meth c H locs 0 0 Q (F0 m 71 ls []) := by
              intro n
              induction n with
              | zero => intro L71_x4 X hf; cases hf
              | succ n ih =>
                intro L71_x4 X hf H locs hM ls hl hk
                rw [f_X13_partnerOf_L71] at hf
                refine lv_iload_n hx hb dX13_partnerOf_71 rfl (lv_at hl 2 rfl) ?_
                refine lv_iload hx hb dX13_partnerOf_72 (lv_at hl 4 rfl) ?_
                refine lv_ishr hx hb dX13_partnerOf_74 ?_
                refine lv_iconst (v := 1) hx hb dX13_partnerOf_75 (by decide) ?_
                refine lv_iand hx hb dX13_partnerOf_76 ?_
                refine lv_if_eq (tgt := 116) hx hb dX13_partnerOf_77 (by decide) (fun hcd => ?_) (fun hcd => ?_)
                · rw [if_pos hcd] at hf
                  refine lv_iinc (v := (L71_x4 + 1)) (lv' := [(4, .int (L71_x4 + 1)), (0, .ref b), (1, .int x1), (2, .int L57_x2), (3, .int q62)]) hx hb dX13_partnerOf_116 hl (k := 4) rfl rfl (by decide) rfl (fun ls hl => ?_)
                  refine lv_goto (tgt := 71) hx hb dX13_partnerOf_119 (by decide) ?_
                  exact ih _ _ hf _ _ hM _ (lv_sub hl [1, 2, 3, 4, 0] rfl) hk
                · rw [if_neg hcd] at hf
                  refine lv_aload_n hx hb dX13_partnerOf_80 rfl (lv_at hl 0 rfl) ?_
                  refine lv_iload_n hx hb dX13_partnerOf_81 rfl (lv_at hl 3 rfl) ?_
                  refine lv_iload hx hb dX13_partnerOf_82 (lv_at hl 4 rfl) ?_
                  obtain ⟨q84, hq84, hf⟩ := mm_bd hf
                  refine mm_Vi (rest := []) hC hM (c_X13_pairs l hq84 hp_this) q8_205 q1_12 ykX13_pairs q8_202 q8_204 qp_78912423 hp_this.1 rfl ⟨rfl, rfl⟩ ⟨Nat.le_of_ble_eq_true rfl, Nat.le_of_ble_eq_true rfl⟩ rfl hl.1 rfl (Nat.le_of_ble_eq_true rfl) dX13_partnerOf_84 ⟨Nat.le_of_ble_eq_true rfl, Nat.le_of_ble_eq_true rfl⟩ (fun r w84 H locs hM hw => ?_)
                  obtain ⟨hr, hw⟩ := hw
                  rw [hr]
                  rw [hw] at hM
                  refine lv_aload_n hx hb dX13_partnerOf_87 rfl (lv_at hl 0 rfl) ?_
                  refine mm_get hC hM (k := 11) hp_this.1 rfl inAX13 (by decide) q7_16 rfl dX13_partnerOf_88 ?_
                  refine lv_iload_n hx hb dX13_partnerOf_91 rfl (lv_at hl 2 rfl) ?_
                  refine lv_iconst (v := 1) hx hb dX13_partnerOf_92 (by decide) ?_
                  refine lv_iload_n hx hb dX13_partnerOf_93 rfl (lv_at hl 3 rfl) ?_
                  refine lv_ishl hx hb dX13_partnerOf_94 ?_
                  refine lv_iconst (v := (-1)) hx hb dX13_partnerOf_95 (by decide) ?_
                  refine lv_ixor hx hb dX13_partnerOf_96 ?_
                  refine lv_iand hx hb dX13_partnerOf_97 ?_
                  refine lv_iconst (v := 1) hx hb dX13_partnerOf_98 (by decide) ?_
                  refine lv_iload hx hb dX13_partnerOf_99 (lv_at hl 4 rfl) ?_
                  refine lv_ishl hx hb dX13_partnerOf_101 ?_
                  refine lv_iconst (v := (-1)) hx hb dX13_partnerOf_102 (by decide) ?_
                  refine lv_ixor hx hb dX13_partnerOf_103 ?_
                  refine lv_iand hx hb dX13_partnerOf_104 ?_
                  obtain ⟨hg105, hf⟩ := mm_gd hf
                  refine mm_iald hC hM (hp_this.2.2.2.2.2.2.2.1) hg105 dX13_partnerOf_105 ?_
                  refine lv_iadd hx hb dX13_partnerOf_106 ?_
                  refine lv_aload_n hx hb dX13_partnerOf_107 rfl (lv_at hl 0 rfl) ?_
                  refine mm_get hC hM (k := 11) hp_this.1 rfl inAX13 (by decide) q7_16 rfl dX13_partnerOf_108 ?_
                  refine lv_iload_n hx hb dX13_partnerOf_111 rfl (lv_at hl 2 rfl) ?_
                  obtain ⟨hg112, hf⟩ := mm_gd hf
                  refine mm_iald hC hM (hp_this.2.2.2.2.2.2.2.1) hg112 dX13_partnerOf_112 ?_
                  refine lv_icmp_eq (tgt := 122) hx hb dX13_partnerOf_113 (by decide) (fun hcd => ?_) (fun hcd => ?_)
                  · rw [if_pos hcd] at hf
                    cases hf
                    exact hk _ _ hM _ (lv_sub hl [0, 1, 2, 3, 4] rfl)
                  · rw [if_neg hcd] at hf
                    refine lv_iinc (v := (L71_x4 + 1)) (lv' := [(4, .int (L71_x4 + 1)), (0, .ref b), (1, .int x1), (2, .int L57_x2), (3, .int q62)]) hx hb dX13_partnerOf_116 hl (k := 4) rfl rfl (by decide) rfl (fun ls hl => ?_)
                    refine lv_goto (tgt := 71) hx hb dX13_partnerOf_119 (by decide) ?_
                    exact ih _ _ hf _ _ hM _ (lv_sub hl [1, 2, 3, 4, 0] rfl) hk
            obtain ⟨q71, hq71, hf⟩ := mm_bd hf
            refine L71 K _ _ hq71 _ _ hM _ (lv_sub hl [2, 3, 4, 1, 0] rfl) (fun H locs hM ls hl => ?_)
            refine lv_iload_n hx hb dX13_partnerOf_122 rfl (lv_at hl 3 rfl) ?_
            refine lv_iload_n hx hb dX13_partnerOf_123 rfl (lv_at hl 1 rfl) ?_
            refine lv_icmp_ne (tgt := 130) hx hb dX13_partnerOf_124 (by decide) (fun hcd => ?_) (fun hcd => ?_)
            · rw [if_neg hcd] at hf
              refine lv_iload hx hb dX13_partnerOf_130 (lv_at hl 4 rfl) ?_
              refine lv_iload_n hx hb dX13_partnerOf_132 rfl (lv_at hl 1 rfl) ?_
              refine lv_icmp_ne (tgt := 138) hx hb dX13_partnerOf_133 (by decide) (fun hcd => ?_) (fun hcd => ?_)
              · rw [if_neg hcd] at hf
                refine lv_iload_n hx hb dX13_partnerOf_138 rfl (lv_at hl 2 rfl) ?_
                refine lv_iconst (v := 1) hx hb dX13_partnerOf_139 (by decide) ?_
                refine lv_iload_n hx hb dX13_partnerOf_140 rfl (lv_at hl 3 rfl) ?_
                refine lv_ishl hx hb dX13_partnerOf_141 ?_
                refine lv_iconst (v := (-1)) hx hb dX13_partnerOf_142 (by decide) ?_
                refine lv_ixor hx hb dX13_partnerOf_143 ?_
                refine lv_iand hx hb dX13_partnerOf_144 ?_
                refine lv_iconst (v := 1) hx hb dX13_partnerOf_145 (by decide) ?_
                refine lv_iload hx hb dX13_partnerOf_146 (lv_at hl 4 rfl) ?_
                refine lv_ishl hx hb dX13_partnerOf_148 ?_
                refine lv_iconst (v := (-1)) hx hb dX13_partnerOf_149 (by decide) ?_
                refine lv_ixor hx hb dX13_partnerOf_150 ?_
                refine lv_iand hx hb dX13_partnerOf_151 ?_
                refine lv_istore_n (lv' := [(2, .int ((L57_x2 &&& (((1 : Int32) <<< (q62 &&& 31)) ^^^ (-1))) &&& (((1 : Int32) <<< (q71 &&& 31)) ^^^ (-1)))), (0, .ref b), (1, .int x1), (3, .int q62), (4, .int q71)]) hx hb dX13_partnerOf_152 rfl hl (by decide) rfl (fun ls hl => ?_)
                refine lv_goto (tgt := 57) hx hb dX13_partnerOf_153 (by decide) ?_
                exact ih _ hf _ _ hM _ (lv_sub hl [1, 2, 0] rfl)
              · rw [if_pos hcd] at hf
                refine lv_iload_n hx hb dX13_partnerOf_136 rfl (lv_at hl 3 rfl) ?_
                cases hf
                exact hret hM dX13_partnerOf_137 rfl ⟨rfl, hp_this, hF⟩
            · rw [if_pos hcd] at hf
              refine lv_iload hx hb dX13_partnerOf_127 (lv_at hl 4 rfl) ?_
              cases hf
              exact hret hM dX13_partnerOf_129 rfl ⟨rfl, hp_this, hF⟩
      exact L57 K _ hf _ _ hM _ (lv_sub hl [1, 2, 0] rfl)
    · rw [if_pos hcd] at hf
      refine lv_iconst (v := 2) hx hb dX13_partnerOf_25 (by decide) ?_
      refine lv_goto (tgt := 30) hx hb dX13_partnerOf_26 (by decide) ?_
      refine mm_put hC hM (k := 0) tyX13 hp_this.1 rfl inAX13 tyX13_ok nmX13 (by decide) q7_5 rfl rfl rfl rfl (Nat.le_of_ble_eq_true rfl) dX13_partnerOf_30 (fun w30 H locs hM hm => ?_)
      have hp_this : At13 G w30 b 2 changes errorAt failedAt isSaved v before saved past far scratch best thenX thenY thenMet text line isLeft words wordAt textN hereP endP lineN isWrong isDoing := ⟨hm.1, hm.keep (hp_this.2.1) (by omega), hm.keep (hp_this.2.2.1) (by omega), hm.keep (hp_this.2.2.2.1) (by omega), hm.keep (hp_this.2.2.2.2.1) (by omega), hm.keep (hp_this.2.2.2.2.2.1) (by omega), hm.keep (hp_this.2.2.2.2.2.2.1) (by omega), hm.keep (hp_this.2.2.2.2.2.2.2.1) (by omega), hm.keep (hp_this.2.2.2.2.2.2.2.2.1) (by omega), hm.keep (hp_this.2.2.2.2.2.2.2.2.2.1) (by omega), hm.keep (hp_this.2.2.2.2.2.2.2.2.2.2.1) (by omega), hm.keep (hp_this.2.2.2.2.2.2.2.2.2.2.2.1) (by omega), hm.keep (hp_this.2.2.2.2.2.2.2.2.2.2.2.2) (by omega)⟩
      have hF := hF.tr (hm.fr (by omega) (by omega))
      refine lv_aload_n hx hb dX13_partnerOf_33 rfl (lv_at hl 0 rfl) ?_
      refine mm_get hC hM (k := 0) hp_this.1 rfl inAX13 (by decide) q7_5 rfl dX13_partnerOf_34 ?_
      refine lv_if_eq (tgt := 42) hx hb dX13_partnerOf_37 (by decide) (fun c => absurd c (by decide)) (fun _ => ?_)
      refine lv_iconst (v := 0) hx hb dX13_partnerOf_40 (by decide) ?_
      cases hf
      exact hret hM dX13_partnerOf_41 rfl ⟨rfl, hp_this, hF⟩
  · rw [if_pos hcd] at hf
    refine lv_iconst (v := 1) hx hb dX13_partnerOf_9 (by decide) ?_
    refine lv_goto (tgt := 30) hx hb dX13_partnerOf_10 (by decide) ?_
    refine mm_put hC hM (k := 0) tyX13 hp_this.1 rfl inAX13 tyX13_ok nmX13 (by decide) q7_5 rfl rfl rfl rfl (Nat.le_of_ble_eq_true rfl) dX13_partnerOf_30 (fun w30 H locs hM hm => ?_)
    have hp_this : At13 G w30 b 1 changes errorAt failedAt isSaved v before saved past far scratch best thenX thenY thenMet text line isLeft words wordAt textN hereP endP lineN isWrong isDoing := ⟨hm.1, hm.keep (hp_this.2.1) (by omega), hm.keep (hp_this.2.2.1) (by omega), hm.keep (hp_this.2.2.2.1) (by omega), hm.keep (hp_this.2.2.2.2.1) (by omega), hm.keep (hp_this.2.2.2.2.2.1) (by omega), hm.keep (hp_this.2.2.2.2.2.2.1) (by omega), hm.keep (hp_this.2.2.2.2.2.2.2.1) (by omega), hm.keep (hp_this.2.2.2.2.2.2.2.2.1) (by omega), hm.keep (hp_this.2.2.2.2.2.2.2.2.2.1) (by omega), hm.keep (hp_this.2.2.2.2.2.2.2.2.2.2.1) (by omega), hm.keep (hp_this.2.2.2.2.2.2.2.2.2.2.2.1) (by omega), hm.keep (hp_this.2.2.2.2.2.2.2.2.2.2.2.2) (by omega)⟩
    have hF := hF.tr (hm.fr (by omega) (by omega))
    refine lv_aload_n hx hb dX13_partnerOf_33 rfl (lv_at hl 0 rfl) ?_
    refine mm_get hC hM (k := 0) hp_this.1 rfl inAX13 (by decide) q7_5 rfl dX13_partnerOf_34 ?_
    refine lv_if_eq (tgt := 42) hx hb dX13_partnerOf_37 (by decide) (fun c => absurd c (by decide)) (fun _ => ?_)
    refine lv_iconst (v := 0) hx hb dX13_partnerOf_40 (by decide) ?_
    cases hf
    exact hret hM dX13_partnerOf_41 rfl ⟨rfl, hp_this, hF⟩
def f_X13_fares_L4 (v : Nat → Int32) : Nat → (Int32) → (Int32) → Option (Int32)
  | 0, _, _ => none
  | n + 1, x1, x2 => if (v 3) ≤ x2 then some x1 else (f_X13_of x2 3).bind fun q21 => mm_g (mm_ck q21 238) (f_X13_fares_L4 v n (x1 + (v q21.toNatClampNeg)) (x2 + 1))
def f_X13_fares (K : Nat) (v : Nat → Int32) : Option (Int32) := (f_X13_fares_L4 v K 0 0).bind fun q4 => some q4
set_option maxHeartbeats 4000000 in
set_option maxRecDepth 100000 in
theorem c_X13_fares (l : Launch) {G : mm_G} {K : Nat} {w : va_W} {sz : Nat} {b : Nat} {thrown : Int32} {changes : Int32} {errorAt : Int32} {failedAt : Int32} {isSaved : Int32} {v : Nat → Int32} {before : Nat → Int32} {saved : Nat → Int32} {past : Nat → Int32} {far : Nat → Int32} {scratch : Nat → Int32} {best : Nat → Int32} {thenX : Int32} {thenY : Int32} {thenMet : Int32} {text : Nat → Int32} {line : Nat → Int32} {isLeft : Nat → Int32} {words : Nat → Int32} {wordAt : Nat → Int32} {textN : Int32} {hereP : Int32} {endP : Int32} {lineN : Int32} {isWrong : Int32} {isDoing : Int32} {X : Int32} (hf : f_X13_fares K v = some X) (hp_this : At13 G w b thrown changes errorAt failedAt isSaved v before saved past far scratch best thenX thenY thenMet text line isLeft words wordAt textN hereP endP lineN isWrong isDoing) : Met l yX13_fares (Cond.code yX13_fares cX13_fares 3 (some .int) :: gAll) ({ frames := 1, cells := 0, slots := 0, locals := 21 }) (va_Pc [.ref b] (mm_Pre G w sz)) (mm_Qi G w sz (fun r w' => r = X ∧ w' = w)) 0 0 (va_A w sz) := by
  refine mm_headI [.ref b] (by decide +kernel) rfl (Nat.le_of_ble_eq_true rfl) ?_
  intro p e s m args below meth c A Q hsz hC hM hret ls hl
  have hx := hC.1.1
  have hb := hC.1.2.1
  have hl : lv_has ls 3 [(0, .ref b)] := hl
  rw [f_X13_fares] at hf
  refine lv_iconst (v := 0) hx hb dX13_fares_0 (by decide) ?_
  refine lv_istore_n (lv' := [(1, .int 0), (0, .ref b)]) hx hb dX13_fares_1 rfl hl (by decide) rfl (fun ls hl => ?_)
  refine lv_iconst (v := 0) hx hb dX13_fares_2 (by decide) ?_
  refine lv_istore_n (lv' := [(2, .int 0), (1, .int 0), (0, .ref b)]) hx hb dX13_fares_3 rfl hl (by decide) rfl (fun ls hl => ?_)
  have L4 : ∀ (n : Nat) (L4_x1 : Int32) (L4_x2 : Int32) (X : Int32), f_X13_fares_L4 v n L4_x1 L4_x2 = some X → ∀ (H : Heap) (locs : List Loc), mm_S G A s.heap w H locs → ∀ (ls : Array Slot), lv_has ls 3 [(0, .ref b), (1, .int L4_x1), (2, .int L4_x2)] → (∀ (H : Heap) (locs : List Loc), mm_S G A s.heap w H locs → ∀ (ls : Array Slot), lv_has ls 3 [(1, .int X)] → W p l e ({ frames := 1, cells := 0, slots := 0, locals := 21 } : Room) s m args below meth c H locs 0 0 Q (F0 m 33 ls [])) → W p l e ({ frames := 1, cells := 0, slots := 0, locals := 21 } : Room) s m args below meth c H locs 0 0 Q (F0 m 4 ls []) := by
    intro n
    induction n with
    | zero => intro L4_x1 L4_x2 X hf; cases hf
    | succ n ih =>
      intro L4_x1 L4_x2 X hf H locs hM ls hl hk
      rw [f_X13_fares_L4] at hf
      refine lv_iload_n hx hb dX13_fares_4 rfl (lv_at hl 2 rfl) ?_
      refine lv_aload_n hx hb dX13_fares_5 rfl (lv_at hl 0 rfl) ?_
      refine mm_get hC hM (k := 5) hp_this.1 rfl inAX13 (by decide) q7_10 rfl dX13_fares_6 ?_
      refine lv_iconst (v := 3) hx hb dX13_fares_9 (by decide) ?_
      refine mm_ialdN (N := 3) hC hM (hp_this.2.1) (by decide) (by unfold vp_in; decide) dX13_fares_10 ?_
      refine lv_icmp_ge (tgt := 33) hx hb dX13_fares_11 (by decide) (fun hcd => ?_) (fun hcd => ?_)
      · rw [if_pos hcd] at hf
        cases hf
        exact hk _ _ hM _ (lv_sub hl [1] rfl)
      · rw [if_neg hcd] at hf
        refine lv_iload_n hx hb dX13_fares_14 rfl (lv_at hl 1 rfl) ?_
        refine lv_aload_n hx hb dX13_fares_15 rfl (lv_at hl 0 rfl) ?_
        refine mm_get hC hM (k := 5) hp_this.1 rfl inAX13 (by decide) q7_10 rfl dX13_fares_16 ?_
        refine lv_iload_n hx hb dX13_fares_19 rfl (lv_at hl 2 rfl) ?_
        refine lv_iconst (v := 3) hx hb dX13_fares_20 (by decide) ?_
        obtain ⟨q21, hq21, hf⟩ := mm_bd hf
        refine mm_Si (rest := [.ref (b + 1), .int L4_x1]) hC hM (c_X13_of l hq21) q7_126 q1_12 ykX13_of q7_124 q7_125 ⟨rfl, rfl⟩ ⟨Nat.le_of_ble_eq_true rfl, Nat.le_of_ble_eq_true rfl⟩ rfl hl.1 rfl (Nat.le_of_ble_eq_true rfl) dX13_fares_21 ⟨Nat.le_of_ble_eq_true rfl, Nat.le_of_ble_eq_true rfl⟩ (fun r w21 H locs hM hw => ?_)
        obtain ⟨hr, hw⟩ := hw
        rw [hr]
        rw [hw] at hM
        obtain ⟨hg24, hf⟩ := mm_gd hf
        refine mm_iald hC hM (hp_this.2.1) hg24 dX13_fares_24 ?_
        refine lv_iadd hx hb dX13_fares_25 ?_
        refine lv_istore_n (lv' := [(1, .int (L4_x1 + (v q21.toNatClampNeg))), (0, .ref b), (2, .int L4_x2)]) hx hb dX13_fares_26 rfl hl (by decide) rfl (fun ls hl => ?_)
        refine lv_iinc (v := (L4_x2 + 1)) (lv' := [(2, .int (L4_x2 + 1)), (1, .int (L4_x1 + (v q21.toNatClampNeg))), (0, .ref b)]) hx hb dX13_fares_27 hl (k := 2) rfl rfl (by decide) rfl (fun ls hl => ?_)
        refine lv_goto (tgt := 4) hx hb dX13_fares_30 (by decide) ?_
        exact ih _ _ _ hf _ _ hM _ (lv_sub hl [2, 1, 0] rfl) hk
  obtain ⟨q4, hq4, hf⟩ := mm_bd hf
  refine L4 K _ _ _ hq4 _ _ hM _ (lv_sub hl [2, 1, 0] rfl) (fun H locs hM ls hl => ?_)
  refine lv_iload_n hx hb dX13_fares_33 rfl (lv_at hl 0 rfl) ?_
  cases hf
  exact hret hM dX13_fares_34 rfl ⟨rfl, rfl⟩
def f_X13_fareTotal (K : Nat) (v : Nat → Int32) : Option (Int32 × Int32) := (f_X13_fares K v).bind fun q6 => some ((q6 + (v 5)), 0)
set_option maxHeartbeats 4000000 in
set_option maxRecDepth 100000 in
theorem c_X13_fareTotal (l : Launch) {G : mm_G} {K : Nat} {w : va_W} {sz : Nat} {b : Nat} {thrown : Int32} {changes : Int32} {errorAt : Int32} {failedAt : Int32} {isSaved : Int32} {v : Nat → Int32} {before : Nat → Int32} {saved : Nat → Int32} {past : Nat → Int32} {far : Nat → Int32} {scratch : Nat → Int32} {best : Nat → Int32} {thenX : Int32} {thenY : Int32} {thenMet : Int32} {text : Nat → Int32} {line : Nat → Int32} {isLeft : Nat → Int32} {words : Nat → Int32} {wordAt : Nat → Int32} {textN : Int32} {hereP : Int32} {endP : Int32} {lineN : Int32} {isWrong : Int32} {isDoing : Int32} {X : Int32 × Int32} (hf : f_X13_fareTotal K v = some X) (hp_this : At13 G w b thrown changes errorAt failedAt isSaved v before saved past far scratch best thenX thenY thenMet text line isLeft words wordAt textN hereP endP lineN isWrong isDoing) : Met l yX13_fareTotal (Cond.code yX13_fareTotal cX13_fareTotal 1 (some .int) :: gAll) ({ frames := 2, cells := 0, slots := 0, locals := 43 }) (va_Pc [.ref b] (mm_Pre G w sz)) (mm_Qi G w sz (fun r w' => r = X.1 ∧ At13 G w' b X.2 changes errorAt failedAt isSaved v before saved past far scratch best thenX thenY thenMet text line isLeft words wordAt textN hereP endP lineN isWrong isDoing ∧ mm_fr w w' b (b + 13))) 0 0 (va_A w sz) := by
  refine mm_headI [.ref b] (by decide +kernel) rfl (Nat.le_of_ble_eq_true rfl) ?_
  intro p e s m args below meth c A Q hsz hC hM hret ls hl
  have hx := hC.1.1
  have hb := hC.1.2.1
  have hl : lv_has ls 1 [(0, .ref b)] := hl
  have hF : mm_fr w w b (b + 13) := mm_fr.rf
  rw [f_X13_fareTotal] at hf
  refine lv_aload_n hx hb dX13_fareTotal_0 rfl (lv_at hl 0 rfl) ?_
  refine lv_iconst (v := 0) hx hb dX13_fareTotal_1 (by decide) ?_
  refine mm_put hC hM (k := 0) tyX13 hp_this.1 rfl inAX13 tyX13_ok nmX13 (by decide) q7_5 rfl rfl rfl rfl (Nat.le_of_ble_eq_true rfl) dX13_fareTotal_2 (fun w2 H locs hM hm => ?_)
  have hp_this : At13 G w2 b 0 changes errorAt failedAt isSaved v before saved past far scratch best thenX thenY thenMet text line isLeft words wordAt textN hereP endP lineN isWrong isDoing := ⟨hm.1, hm.keep (hp_this.2.1) (by omega), hm.keep (hp_this.2.2.1) (by omega), hm.keep (hp_this.2.2.2.1) (by omega), hm.keep (hp_this.2.2.2.2.1) (by omega), hm.keep (hp_this.2.2.2.2.2.1) (by omega), hm.keep (hp_this.2.2.2.2.2.2.1) (by omega), hm.keep (hp_this.2.2.2.2.2.2.2.1) (by omega), hm.keep (hp_this.2.2.2.2.2.2.2.2.1) (by omega), hm.keep (hp_this.2.2.2.2.2.2.2.2.2.1) (by omega), hm.keep (hp_this.2.2.2.2.2.2.2.2.2.2.1) (by omega), hm.keep (hp_this.2.2.2.2.2.2.2.2.2.2.2.1) (by omega), hm.keep (hp_this.2.2.2.2.2.2.2.2.2.2.2.2) (by omega)⟩
  have hF := hF.tr (hm.fr (by omega) (by omega))
  refine lv_aload_n hx hb dX13_fareTotal_5 rfl (lv_at hl 0 rfl) ?_
  obtain ⟨q6, hq6, hf⟩ := mm_bd hf
  refine mm_Vi (rest := []) hC hM (c_X13_fares l hq6 hp_this) q8_225 q1_12 ykX13_fares q8_222 q8_224 qp_ccd8c27d hp_this.1 rfl ⟨rfl, rfl⟩ ⟨Nat.le_of_ble_eq_true rfl, Nat.le_of_ble_eq_true rfl⟩ rfl hl.1 rfl (Nat.le_of_ble_eq_true rfl) dX13_fareTotal_6 ⟨Nat.le_of_ble_eq_true rfl, Nat.le_of_ble_eq_true rfl⟩ (fun r w6 H locs hM hw => ?_)
  obtain ⟨hr, hw⟩ := hw
  rw [hr]
  rw [hw] at hM
  refine lv_aload_n hx hb dX13_fareTotal_9 rfl (lv_at hl 0 rfl) ?_
  refine mm_get hC hM (k := 5) hp_this.1 rfl inAX13 (by decide) q7_10 rfl dX13_fareTotal_10 ?_
  refine lv_iconst (v := 5) hx hb dX13_fareTotal_13 (by decide) ?_
  refine mm_ialdN (N := 5) hC hM (hp_this.2.1) (by decide) (by unfold vp_in; decide) dX13_fareTotal_14 ?_
  refine lv_iadd hx hb dX13_fareTotal_15 ?_
  cases hf
  exact hret hM dX13_fareTotal_16 rfl ⟨rfl, hp_this, hF⟩
def f_X13_fareTotalByBoats (K : Nat) (v : Nat → Int32) : Option (Int32 × Int32) := (f_X13_fareTotal K v).bind fun q1 => some (q1.1, q1.2)
set_option maxHeartbeats 4000000 in
set_option maxRecDepth 100000 in
theorem c_X13_fareTotalByBoats (l : Launch) {G : mm_G} {K : Nat} {w : va_W} {sz : Nat} {b : Nat} {thrown : Int32} {changes : Int32} {errorAt : Int32} {failedAt : Int32} {isSaved : Int32} {v : Nat → Int32} {before : Nat → Int32} {saved : Nat → Int32} {past : Nat → Int32} {far : Nat → Int32} {scratch : Nat → Int32} {best : Nat → Int32} {thenX : Int32} {thenY : Int32} {thenMet : Int32} {text : Nat → Int32} {line : Nat → Int32} {isLeft : Nat → Int32} {words : Nat → Int32} {wordAt : Nat → Int32} {textN : Int32} {hereP : Int32} {endP : Int32} {lineN : Int32} {isWrong : Int32} {isDoing : Int32} {X : Int32 × Int32} (hf : f_X13_fareTotalByBoats K v = some X) (hp_this : At13 G w b thrown changes errorAt failedAt isSaved v before saved past far scratch best thenX thenY thenMet text line isLeft words wordAt textN hereP endP lineN isWrong isDoing) : Met l yX13_fareTotalByBoats (Cond.code yX13_fareTotalByBoats cX13_fareTotalByBoats 1 (some .int) :: gAll) ({ frames := 3, cells := 0, slots := 0, locals := 63 }) (va_Pc [.ref b] (mm_Pre G w sz)) (mm_Qi G w sz (fun r w' => r = X.1 ∧ At13 G w' b X.2 changes errorAt failedAt isSaved v before saved past far scratch best thenX thenY thenMet text line isLeft words wordAt textN hereP endP lineN isWrong isDoing ∧ mm_fr w w' b (b + 13))) 0 0 (va_A w sz) := by
  refine mm_headI [.ref b] (by decide +kernel) rfl (Nat.le_of_ble_eq_true rfl) ?_
  intro p e s m args below meth c A Q hsz hC hM hret ls hl
  have hx := hC.1.1
  have hb := hC.1.2.1
  have hl : lv_has ls 1 [(0, .ref b)] := hl
  have hF : mm_fr w w b (b + 13) := mm_fr.rf
  rw [f_X13_fareTotalByBoats] at hf
  refine lv_aload_n hx hb dX13_fareTotalByBoats_0 rfl (lv_at hl 0 rfl) ?_
  obtain ⟨q1, hq1, hf⟩ := mm_bd hf
  refine mm_Vi (rest := []) hC hM (c_X13_fareTotal l hq1 hp_this) q8_221 q1_12 ykX13_fareTotal q8_230 q8_219 q8_220 hp_this.1 rfl ⟨rfl, rfl⟩ ⟨Nat.le_of_ble_eq_true rfl, Nat.le_of_ble_eq_true rfl⟩ rfl hl.1 rfl (Nat.le_of_ble_eq_true rfl) dX13_fareTotalByBoats_1 ⟨Nat.le_of_ble_eq_true rfl, Nat.le_of_ble_eq_true rfl⟩ (fun r w1 H locs hM hw => ?_)
  obtain ⟨hr, hn_this, hfr⟩ := hw
  rw [hr]
  have hp_this := hn_this
  have hF := hF.tr (hfr.wide (by omega) (by omega))
  cases hf
  exact hret hM dX13_fareTotalByBoats_4 rfl ⟨rfl, hp_this, hF⟩
def f_X13_meetingCount (v : Nat → Int32) : Option (Int32 × Int32) := (f_X13_tells v 6).bind fun q3 => some (q3.1, q3.2)
set_option maxHeartbeats 4000000 in
set_option maxRecDepth 100000 in
theorem c_X13_meetingCount (l : Launch) {G : mm_G} {w : va_W} {sz : Nat} {b : Nat} {thrown : Int32} {changes : Int32} {errorAt : Int32} {failedAt : Int32} {isSaved : Int32} {v : Nat → Int32} {before : Nat → Int32} {saved : Nat → Int32} {past : Nat → Int32} {far : Nat → Int32} {scratch : Nat → Int32} {best : Nat → Int32} {thenX : Int32} {thenY : Int32} {thenMet : Int32} {text : Nat → Int32} {line : Nat → Int32} {isLeft : Nat → Int32} {words : Nat → Int32} {wordAt : Nat → Int32} {textN : Int32} {hereP : Int32} {endP : Int32} {lineN : Int32} {isWrong : Int32} {isDoing : Int32} {X : Int32 × Int32} (hf : f_X13_meetingCount v = some X) (hp_this : At13 G w b thrown changes errorAt failedAt isSaved v before saved past far scratch best thenX thenY thenMet text line isLeft words wordAt textN hereP endP lineN isWrong isDoing) : Met l yX13_meetingCount (Cond.code yX13_meetingCount cX13_meetingCount 1 (some .int) :: gAll) ({ frames := 1, cells := 0, slots := 0, locals := 21 }) (va_Pc [.ref b] (mm_Pre G w sz)) (mm_Qi G w sz (fun r w' => r = X.1 ∧ At13 G w' b X.2 changes errorAt failedAt isSaved v before saved past far scratch best thenX thenY thenMet text line isLeft words wordAt textN hereP endP lineN isWrong isDoing ∧ mm_fr w w' b (b + 13))) 0 0 (va_A w sz) := by
  refine mm_headI [.ref b] (by decide +kernel) rfl (Nat.le_of_ble_eq_true rfl) ?_
  intro p e s m args below meth c A Q hsz hC hM hret ls hl
  have hx := hC.1.1
  have hb := hC.1.2.1
  have hl : lv_has ls 1 [(0, .ref b)] := hl
  have hF : mm_fr w w b (b + 13) := mm_fr.rf
  rw [f_X13_meetingCount] at hf
  refine lv_aload_n hx hb dX13_meetingCount_0 rfl (lv_at hl 0 rfl) ?_
  refine lv_bipush (v := 6) hx hb dX13_meetingCount_1 (by decide) ?_
  obtain ⟨q3, hq3, hf⟩ := mm_bd hf
  refine mm_Vi (rest := []) hC hM (c_X13_tells l hq3 hp_this) q7_177 q1_12 ykX13_tells q7_174 q7_176 qp_3beb7552 hp_this.1 rfl ⟨rfl, rfl⟩ ⟨Nat.le_of_ble_eq_true rfl, Nat.le_of_ble_eq_true rfl⟩ rfl hl.1 rfl (Nat.le_of_ble_eq_true rfl) dX13_meetingCount_3 ⟨Nat.le_of_ble_eq_true rfl, Nat.le_of_ble_eq_true rfl⟩ (fun r w3 H locs hM hw => ?_)
  obtain ⟨hr, hn_this, hfr⟩ := hw
  rw [hr]
  have hp_this := hn_this
  have hF := hF.tr (hfr.wide (by omega) (by omega))
  cases hf
  exact hret hM dX13_meetingCount_6 rfl ⟨rfl, hp_this, hF⟩
def f_X13_append (text : Nat → Int32) (textN : Int32) (x1 : Int32) : Option (Int32 × Int32 × (Nat → Int32) × Int32) := (f_X13_isIn x1 32 126).bind fun q6 => if q6 = 0 then some (0, 1, text, textN) else if textN = 60 then some (0, 2, text, textN) else mm_g (mm_ck textN 60) (some ((textN + 1), 0, (upd text textN.toNatClampNeg x1), (textN + 1)))
set_option maxHeartbeats 4000000 in
set_option maxRecDepth 100000 in
theorem c_X13_append (l : Launch) {G : mm_G} {w : va_W} {sz : Nat} {b : Nat} {thrown : Int32} {changes : Int32} {errorAt : Int32} {failedAt : Int32} {isSaved : Int32} {v : Nat → Int32} {before : Nat → Int32} {saved : Nat → Int32} {past : Nat → Int32} {far : Nat → Int32} {scratch : Nat → Int32} {best : Nat → Int32} {thenX : Int32} {thenY : Int32} {thenMet : Int32} {text : Nat → Int32} {line : Nat → Int32} {isLeft : Nat → Int32} {words : Nat → Int32} {wordAt : Nat → Int32} {textN : Int32} {hereP : Int32} {endP : Int32} {lineN : Int32} {isWrong : Int32} {isDoing : Int32} {x1 : Int32} {X : Int32 × Int32 × (Nat → Int32) × Int32} (hf : f_X13_append text textN x1 = some X) (hp_this : At13 G w b thrown changes errorAt failedAt isSaved v before saved past far scratch best thenX thenY thenMet text line isLeft words wordAt textN hereP endP lineN isWrong isDoing) : Met l yX13_append (Cond.code yX13_append cX13_append 2 (some .int) :: gAll) ({ frames := 1, cells := 0, slots := 0, locals := 22 }) (va_Pc [.ref b, .int x1] (mm_Pre G w sz)) (mm_Qi G w sz (fun r w' => r = X.1 ∧ At13 G w' b X.2.1 changes errorAt failedAt isSaved v before saved past far scratch best thenX thenY thenMet X.2.2.1 line isLeft words wordAt X.2.2.2 hereP endP lineN isWrong isDoing ∧ mm_fr w w' b (b + 13))) 0 0 (va_A w sz) := by
  refine mm_headI [.ref b, .int x1] (by decide +kernel) rfl (Nat.le_of_ble_eq_true rfl) ?_
  intro p e s m args below meth c A Q hsz hC hM hret ls hl
  have hx := hC.1.1
  have hb := hC.1.2.1
  have hl : lv_has ls 2 [(0, .ref b), (1, .int x1)] := hl
  have hF : mm_fr w w b (b + 13) := mm_fr.rf
  rw [f_X13_append] at hf
  refine lv_aload_n hx hb dX13_append_0 rfl (lv_at hl 0 rfl) ?_
  refine lv_iload_n hx hb dX13_append_1 rfl (lv_at hl 1 rfl) ?_
  refine lv_bipush (v := 32) hx hb dX13_append_2 (by decide) ?_
  refine lv_bipush (v := 126) hx hb dX13_append_4 (by decide) ?_
  obtain ⟨q6, hq6, hf⟩ := mm_bd hf
  refine mm_Si (rest := [.ref b]) hC hM (c_X13_isIn l hq6) q7_108 q1_12 ykX13_isIn q7_106 q7_107 ⟨rfl, rfl⟩ ⟨Nat.le_of_ble_eq_true rfl, Nat.le_of_ble_eq_true rfl⟩ rfl hl.1 rfl (Nat.le_of_ble_eq_true rfl) dX13_append_6 ⟨Nat.le_of_ble_eq_true rfl, Nat.le_of_ble_eq_true rfl⟩ (fun r w6 H locs hM hw => ?_)
  obtain ⟨hr, hw⟩ := hw
  rw [hr]
  rw [hw] at hM
  refine lv_if_ne (tgt := 16) hx hb dX13_append_9 (by decide) (fun hcd => ?_) (fun hcd => ?_)
  · rw [if_neg hcd] at hf
    refine lv_aload_n hx hb dX13_append_16 rfl (lv_at hl 0 rfl) ?_
    refine mm_get hC hM (k := 20) hp_this.1 rfl inAX13 (by decide) q7_25 rfl dX13_append_17 ?_
    refine lv_bipush (v := 60) hx hb dX13_append_20 (by decide) ?_
    refine lv_icmp_ne (tgt := 29) hx hb dX13_append_22 (by decide) (fun hcd => ?_) (fun hcd => ?_)
    · rw [if_neg hcd] at hf
      refine lv_iconst (v := 0) hx hb dX13_append_29 (by decide) ?_
      refine mm_put hC hM (k := 0) tyX13 hp_this.1 rfl inAX13 tyX13_ok nmX13 (by decide) q7_5 rfl rfl rfl rfl (Nat.le_of_ble_eq_true rfl) dX13_append_30 (fun w30 H locs hM hm => ?_)
      have hp_this : At13 G w30 b 0 changes errorAt failedAt isSaved v before saved past far scratch best thenX thenY thenMet text line isLeft words wordAt textN hereP endP lineN isWrong isDoing := ⟨hm.1, hm.keep (hp_this.2.1) (by omega), hm.keep (hp_this.2.2.1) (by omega), hm.keep (hp_this.2.2.2.1) (by omega), hm.keep (hp_this.2.2.2.2.1) (by omega), hm.keep (hp_this.2.2.2.2.2.1) (by omega), hm.keep (hp_this.2.2.2.2.2.2.1) (by omega), hm.keep (hp_this.2.2.2.2.2.2.2.1) (by omega), hm.keep (hp_this.2.2.2.2.2.2.2.2.1) (by omega), hm.keep (hp_this.2.2.2.2.2.2.2.2.2.1) (by omega), hm.keep (hp_this.2.2.2.2.2.2.2.2.2.2.1) (by omega), hm.keep (hp_this.2.2.2.2.2.2.2.2.2.2.2.1) (by omega), hm.keep (hp_this.2.2.2.2.2.2.2.2.2.2.2.2) (by omega)⟩
      have hF := hF.tr (hm.fr (by omega) (by omega))
      refine lv_aload_n hx hb dX13_append_33 rfl (lv_at hl 0 rfl) ?_
      refine mm_get hC hM (k := 0) hp_this.1 rfl inAX13 (by decide) q7_5 rfl dX13_append_34 ?_
      refine lv_if_eq (tgt := 42) hx hb dX13_append_37 (by decide) (fun _ => ?_) (fun c => absurd (by decide) c)
      refine lv_aload_n hx hb dX13_append_42 rfl (lv_at hl 0 rfl) ?_
      refine mm_get hC hM (k := 15) hp_this.1 rfl inAX13 (by decide) q7_20 rfl dX13_append_43 ?_
      refine lv_aload_n hx hb dX13_append_46 rfl (lv_at hl 0 rfl) ?_
      refine mm_get hC hM (k := 20) hp_this.1 rfl inAX13 (by decide) q7_25 rfl dX13_append_47 ?_
      refine lv_iload_n hx hb dX13_append_50 rfl (lv_at hl 1 rfl) ?_
      obtain ⟨hg51, hf⟩ := mm_gd hf
      refine mm_iast hC hM (hp_this.2.2.2.2.2.2.2.2.1) hg51 dX13_append_51 (fun w51 H locs hM hm => ?_)
      have hp_this : At13 G w51 b 0 changes errorAt failedAt isSaved v before saved past far scratch best thenX thenY thenMet (upd text textN.toNatClampNeg x1) line isLeft words wordAt textN hereP endP lineN isWrong isDoing := ⟨hm.keep (hp_this.1) (by omega), hm.keep (hp_this.2.1) (by omega), hm.keep (hp_this.2.2.1) (by omega), hm.keep (hp_this.2.2.2.1) (by omega), hm.keep (hp_this.2.2.2.2.1) (by omega), hm.keep (hp_this.2.2.2.2.2.1) (by omega), hm.keep (hp_this.2.2.2.2.2.2.1) (by omega), hm.keep (hp_this.2.2.2.2.2.2.2.1) (by omega), hm.1, hm.keep (hp_this.2.2.2.2.2.2.2.2.2.1) (by omega), hm.keep (hp_this.2.2.2.2.2.2.2.2.2.2.1) (by omega), hm.keep (hp_this.2.2.2.2.2.2.2.2.2.2.2.1) (by omega), hm.keep (hp_this.2.2.2.2.2.2.2.2.2.2.2.2) (by omega)⟩
      have hF := hF.tr (hm.fr (by omega) (by omega))
      refine lv_aload_n hx hb dX13_append_52 rfl (lv_at hl 0 rfl) ?_
      refine lv_dup hx hb dX13_append_53 rfl ?_
      refine mm_get hC hM (k := 20) hp_this.1 rfl inAX13 (by decide) q7_25 rfl dX13_append_54 ?_
      refine lv_iconst (v := 1) hx hb dX13_append_57 (by decide) ?_
      refine lv_iadd hx hb dX13_append_58 ?_
      refine mm_put hC hM (k := 20) tyX13 hp_this.1 rfl inAX13 tyX13_ok nmX13 (by decide) q7_25 rfl rfl rfl rfl (Nat.le_of_ble_eq_true rfl) dX13_append_59 (fun w59 H locs hM hm => ?_)
      have hp_this : At13 G w59 b 0 changes errorAt failedAt isSaved v before saved past far scratch best thenX thenY thenMet (upd text textN.toNatClampNeg x1) line isLeft words wordAt (textN + 1) hereP endP lineN isWrong isDoing := ⟨hm.1, hm.keep (hp_this.2.1) (by omega), hm.keep (hp_this.2.2.1) (by omega), hm.keep (hp_this.2.2.2.1) (by omega), hm.keep (hp_this.2.2.2.2.1) (by omega), hm.keep (hp_this.2.2.2.2.2.1) (by omega), hm.keep (hp_this.2.2.2.2.2.2.1) (by omega), hm.keep (hp_this.2.2.2.2.2.2.2.1) (by omega), hm.keep (hp_this.2.2.2.2.2.2.2.2.1) (by omega), hm.keep (hp_this.2.2.2.2.2.2.2.2.2.1) (by omega), hm.keep (hp_this.2.2.2.2.2.2.2.2.2.2.1) (by omega), hm.keep (hp_this.2.2.2.2.2.2.2.2.2.2.2.1) (by omega), hm.keep (hp_this.2.2.2.2.2.2.2.2.2.2.2.2) (by omega)⟩
      have hF := hF.tr (hm.fr (by omega) (by omega))
      refine lv_aload_n hx hb dX13_append_62 rfl (lv_at hl 0 rfl) ?_
      refine mm_get hC hM (k := 20) hp_this.1 rfl inAX13 (by decide) q7_25 rfl dX13_append_63 ?_
      cases hf
      exact hret hM dX13_append_66 rfl ⟨rfl, hp_this, hF⟩
    · rw [if_pos hcd] at hf
      refine lv_iconst (v := 2) hx hb dX13_append_25 (by decide) ?_
      refine lv_goto (tgt := 30) hx hb dX13_append_26 (by decide) ?_
      refine mm_put hC hM (k := 0) tyX13 hp_this.1 rfl inAX13 tyX13_ok nmX13 (by decide) q7_5 rfl rfl rfl rfl (Nat.le_of_ble_eq_true rfl) dX13_append_30 (fun w30 H locs hM hm => ?_)
      have hp_this : At13 G w30 b 2 changes errorAt failedAt isSaved v before saved past far scratch best thenX thenY thenMet text line isLeft words wordAt textN hereP endP lineN isWrong isDoing := ⟨hm.1, hm.keep (hp_this.2.1) (by omega), hm.keep (hp_this.2.2.1) (by omega), hm.keep (hp_this.2.2.2.1) (by omega), hm.keep (hp_this.2.2.2.2.1) (by omega), hm.keep (hp_this.2.2.2.2.2.1) (by omega), hm.keep (hp_this.2.2.2.2.2.2.1) (by omega), hm.keep (hp_this.2.2.2.2.2.2.2.1) (by omega), hm.keep (hp_this.2.2.2.2.2.2.2.2.1) (by omega), hm.keep (hp_this.2.2.2.2.2.2.2.2.2.1) (by omega), hm.keep (hp_this.2.2.2.2.2.2.2.2.2.2.1) (by omega), hm.keep (hp_this.2.2.2.2.2.2.2.2.2.2.2.1) (by omega), hm.keep (hp_this.2.2.2.2.2.2.2.2.2.2.2.2) (by omega)⟩
      have hF := hF.tr (hm.fr (by omega) (by omega))
      refine lv_aload_n hx hb dX13_append_33 rfl (lv_at hl 0 rfl) ?_
      refine mm_get hC hM (k := 0) hp_this.1 rfl inAX13 (by decide) q7_5 rfl dX13_append_34 ?_
      refine lv_if_eq (tgt := 42) hx hb dX13_append_37 (by decide) (fun c => absurd c (by decide)) (fun _ => ?_)
      refine lv_iconst (v := 0) hx hb dX13_append_40 (by decide) ?_
      cases hf
      exact hret hM dX13_append_41 rfl ⟨rfl, hp_this, hF⟩
  · rw [if_pos hcd] at hf
    refine lv_iconst (v := 1) hx hb dX13_append_12 (by decide) ?_
    refine lv_goto (tgt := 30) hx hb dX13_append_13 (by decide) ?_
    refine mm_put hC hM (k := 0) tyX13 hp_this.1 rfl inAX13 tyX13_ok nmX13 (by decide) q7_5 rfl rfl rfl rfl (Nat.le_of_ble_eq_true rfl) dX13_append_30 (fun w30 H locs hM hm => ?_)
    have hp_this : At13 G w30 b 1 changes errorAt failedAt isSaved v before saved past far scratch best thenX thenY thenMet text line isLeft words wordAt textN hereP endP lineN isWrong isDoing := ⟨hm.1, hm.keep (hp_this.2.1) (by omega), hm.keep (hp_this.2.2.1) (by omega), hm.keep (hp_this.2.2.2.1) (by omega), hm.keep (hp_this.2.2.2.2.1) (by omega), hm.keep (hp_this.2.2.2.2.2.1) (by omega), hm.keep (hp_this.2.2.2.2.2.2.1) (by omega), hm.keep (hp_this.2.2.2.2.2.2.2.1) (by omega), hm.keep (hp_this.2.2.2.2.2.2.2.2.1) (by omega), hm.keep (hp_this.2.2.2.2.2.2.2.2.2.1) (by omega), hm.keep (hp_this.2.2.2.2.2.2.2.2.2.2.1) (by omega), hm.keep (hp_this.2.2.2.2.2.2.2.2.2.2.2.1) (by omega), hm.keep (hp_this.2.2.2.2.2.2.2.2.2.2.2.2) (by omega)⟩
    have hF := hF.tr (hm.fr (by omega) (by omega))
    refine lv_aload_n hx hb dX13_append_33 rfl (lv_at hl 0 rfl) ?_
    refine mm_get hC hM (k := 0) hp_this.1 rfl inAX13 (by decide) q7_5 rfl dX13_append_34 ?_
    refine lv_if_eq (tgt := 42) hx hb dX13_append_37 (by decide) (fun c => absurd c (by decide)) (fun _ => ?_)
    refine lv_iconst (v := 0) hx hb dX13_append_40 (by decide) ?_
    cases hf
    exact hret hM dX13_append_41 rfl ⟨rfl, hp_this, hF⟩
def f_X13_sign (text : Nat → Int32) (hereP : Int32) (endP : Int32) : Option (Int32) := if endP ≤ hereP then some (-1) else mm_g (mm_ck hereP 60) (some (text hereP.toNatClampNeg))
set_option maxHeartbeats 4000000 in
set_option maxRecDepth 100000 in
theorem c_X13_sign (l : Launch) {G : mm_G} {w : va_W} {sz : Nat} {b : Nat} {thrown : Int32} {changes : Int32} {errorAt : Int32} {failedAt : Int32} {isSaved : Int32} {v : Nat → Int32} {before : Nat → Int32} {saved : Nat → Int32} {past : Nat → Int32} {far : Nat → Int32} {scratch : Nat → Int32} {best : Nat → Int32} {thenX : Int32} {thenY : Int32} {thenMet : Int32} {text : Nat → Int32} {line : Nat → Int32} {isLeft : Nat → Int32} {words : Nat → Int32} {wordAt : Nat → Int32} {textN : Int32} {hereP : Int32} {endP : Int32} {lineN : Int32} {isWrong : Int32} {isDoing : Int32} {X : Int32} (hf : f_X13_sign text hereP endP = some X) (hp_this : At13 G w b thrown changes errorAt failedAt isSaved v before saved past far scratch best thenX thenY thenMet text line isLeft words wordAt textN hereP endP lineN isWrong isDoing) : Met l yX13_sign (Cond.code yX13_sign cX13_sign 1 (some .int) :: gAll) ({ frames := 0, cells := 0, slots := 0, locals := 0 }) (va_Pc [.ref b] (mm_Pre G w sz)) (mm_Qi G w sz (fun r w' => r = X ∧ w' = w)) 0 0 (va_A w sz) := by
  refine mm_headI [.ref b] (by decide +kernel) rfl (Nat.le_of_ble_eq_true rfl) ?_
  intro p e s m args below meth c A Q hsz hC hM hret ls hl
  have hx := hC.1.1
  have hb := hC.1.2.1
  have hl : lv_has ls 1 [(0, .ref b)] := hl
  rw [f_X13_sign] at hf
  refine lv_aload_n hx hb dX13_sign_0 rfl (lv_at hl 0 rfl) ?_
  refine mm_get hC hM (k := 21) hp_this.1 rfl inAX13 (by decide) q7_26 rfl dX13_sign_1 ?_
  refine lv_aload_n hx hb dX13_sign_4 rfl (lv_at hl 0 rfl) ?_
  refine mm_get hC hM (k := 22) hp_this.1 rfl inAX13 (by decide) q7_27 rfl dX13_sign_5 ?_
  refine lv_icmp_ge (tgt := 23) hx hb dX13_sign_8 (by decide) (fun hcd => ?_) (fun hcd => ?_)
  · rw [if_pos hcd] at hf
    refine lv_iconst (v := (-1)) hx hb dX13_sign_23 (by decide) ?_
    cases hf
    exact hret hM dX13_sign_24 rfl ⟨rfl, rfl⟩
  · rw [if_neg hcd] at hf
    refine lv_aload_n hx hb dX13_sign_11 rfl (lv_at hl 0 rfl) ?_
    refine mm_get hC hM (k := 15) hp_this.1 rfl inAX13 (by decide) q7_20 rfl dX13_sign_12 ?_
    refine lv_aload_n hx hb dX13_sign_15 rfl (lv_at hl 0 rfl) ?_
    refine mm_get hC hM (k := 21) hp_this.1 rfl inAX13 (by decide) q7_26 rfl dX13_sign_16 ?_
    obtain ⟨hg19, hf⟩ := mm_gd hf
    refine mm_iald hC hM (hp_this.2.2.2.2.2.2.2.2.1) hg19 dX13_sign_19 ?_
    refine lv_goto (tgt := 24) hx hb dX13_sign_20 (by decide) ?_
    cases hf
    exact hret hM dX13_sign_24 rfl ⟨rfl, rfl⟩
def f_X13_mark (text : Nat → Int32) (hereP : Int32) (endP : Int32) (isWrong : Int32) (x1 : Int32) : Option (Int32 × Int32) := if isWrong = 0 then (f_X13_sign text hereP endP).bind fun q10 => if q10 = x1 then some ((hereP + 1), 0) else some ((hereP + 0), 1) else some (hereP, isWrong)
set_option maxHeartbeats 4000000 in
set_option maxRecDepth 100000 in
theorem c_X13_mark (l : Launch) {G : mm_G} {w : va_W} {sz : Nat} {b : Nat} {thrown : Int32} {changes : Int32} {errorAt : Int32} {failedAt : Int32} {isSaved : Int32} {v : Nat → Int32} {before : Nat → Int32} {saved : Nat → Int32} {past : Nat → Int32} {far : Nat → Int32} {scratch : Nat → Int32} {best : Nat → Int32} {thenX : Int32} {thenY : Int32} {thenMet : Int32} {text : Nat → Int32} {line : Nat → Int32} {isLeft : Nat → Int32} {words : Nat → Int32} {wordAt : Nat → Int32} {textN : Int32} {hereP : Int32} {endP : Int32} {lineN : Int32} {isWrong : Int32} {isDoing : Int32} {x1 : Int32} {X : Int32 × Int32} (hf : f_X13_mark text hereP endP isWrong x1 = some X) (hp_this : At13 G w b thrown changes errorAt failedAt isSaved v before saved past far scratch best thenX thenY thenMet text line isLeft words wordAt textN hereP endP lineN isWrong isDoing) : Met l yX13_mark (Cond.code yX13_mark cX13_mark 2 none :: gAll) ({ frames := 1, cells := 0, slots := 0, locals := 20 }) (va_Pc [.ref b, .int x1] (mm_Pre G w sz)) (mm_Qv G w sz (fun w' => At13 G w' b thrown changes errorAt failedAt isSaved v before saved past far scratch best thenX thenY thenMet text line isLeft words wordAt textN X.1 endP lineN X.2 isDoing ∧ mm_fr w w' b (b + 13))) 0 0 (va_A w sz) := by
  refine mm_headV [.ref b, .int x1] (by decide +kernel) rfl (Nat.le_of_ble_eq_true rfl) ?_
  intro p e s m args below meth c A Q hsz hC hM hret hnm ls hl
  have hx := hC.1.1
  have hb := hC.1.2.1
  have hl : lv_has ls 2 [(0, .ref b), (1, .int x1)] := hl
  have hF : mm_fr w w b (b + 13) := mm_fr.rf
  rw [f_X13_mark] at hf
  refine lv_aload_n hx hb dX13_mark_0 rfl (lv_at hl 0 rfl) ?_
  refine mm_get hC hM (k := 24) hp_this.1 rfl inAX13 (by decide) q7_29 rfl dX13_mark_1 ?_
  refine lv_if_eq (tgt := 8) hx hb dX13_mark_4 (by decide) (fun hcd => ?_) (fun hcd => ?_)
  · rw [if_pos hcd] at hf
    refine lv_aload_n hx hb dX13_mark_8 rfl (lv_at hl 0 rfl) ?_
    refine lv_aload_n hx hb dX13_mark_9 rfl (lv_at hl 0 rfl) ?_
    obtain ⟨q10, hq10, hf⟩ := mm_bd hf
    refine mm_Vi (rest := [.ref b]) hC hM (c_X13_sign l hq10 hp_this) q9_18 q1_12 ykX13_sign q9_15 q9_17 qp_38a196e3 hp_this.1 rfl ⟨rfl, rfl⟩ ⟨Nat.le_of_ble_eq_true rfl, Nat.le_of_ble_eq_true rfl⟩ rfl hl.1 rfl (Nat.le_of_ble_eq_true rfl) dX13_mark_10 ⟨Nat.le_of_ble_eq_true rfl, Nat.le_of_ble_eq_true rfl⟩ (fun r w10 H locs hM hw => ?_)
    obtain ⟨hr, hw⟩ := hw
    rw [hr]
    rw [hw] at hM
    refine lv_iload_n hx hb dX13_mark_13 rfl (lv_at hl 1 rfl) ?_
    refine lv_icmp_eq (tgt := 21) hx hb dX13_mark_14 (by decide) (fun hcd => ?_) (fun hcd => ?_)
    · rw [if_pos hcd] at hf
      refine lv_iconst (v := 0) hx hb dX13_mark_21 (by decide) ?_
      refine mm_put hC hM (k := 24) tyX13 hp_this.1 rfl inAX13 tyX13_ok nmX13 (by decide) q7_29 rfl rfl rfl (by decide) (Nat.le_of_ble_eq_true rfl) dX13_mark_22 (fun w22 H locs hM hm => ?_)
      have hp_this : At13 G w22 b thrown changes errorAt failedAt isSaved v before saved past far scratch best thenX thenY thenMet text line isLeft words wordAt textN hereP endP lineN 0 isDoing := ⟨hm.1, hm.keep (hp_this.2.1) (by omega), hm.keep (hp_this.2.2.1) (by omega), hm.keep (hp_this.2.2.2.1) (by omega), hm.keep (hp_this.2.2.2.2.1) (by omega), hm.keep (hp_this.2.2.2.2.2.1) (by omega), hm.keep (hp_this.2.2.2.2.2.2.1) (by omega), hm.keep (hp_this.2.2.2.2.2.2.2.1) (by omega), hm.keep (hp_this.2.2.2.2.2.2.2.2.1) (by omega), hm.keep (hp_this.2.2.2.2.2.2.2.2.2.1) (by omega), hm.keep (hp_this.2.2.2.2.2.2.2.2.2.2.1) (by omega), hm.keep (hp_this.2.2.2.2.2.2.2.2.2.2.2.1) (by omega), hm.keep (hp_this.2.2.2.2.2.2.2.2.2.2.2.2) (by omega)⟩
      have hF := hF.tr (hm.fr (by omega) (by omega))
      refine lv_aload_n hx hb dX13_mark_25 rfl (lv_at hl 0 rfl) ?_
      refine lv_dup hx hb dX13_mark_26 rfl ?_
      refine mm_get hC hM (k := 21) hp_this.1 rfl inAX13 (by decide) q7_26 rfl dX13_mark_27 ?_
      refine lv_aload_n hx hb dX13_mark_30 rfl (lv_at hl 0 rfl) ?_
      refine mm_get hC hM (k := 24) hp_this.1 rfl inAX13 (by decide) q7_29 rfl dX13_mark_31 ?_
      refine lv_if_eq (tgt := 41) hx hb dX13_mark_34 (by decide) (fun _ => ?_) (fun c => absurd (by decide) c)
      refine lv_iconst (v := 1) hx hb dX13_mark_41 (by decide) ?_
      refine lv_iadd hx hb dX13_mark_42 ?_
      refine mm_put hC hM (k := 21) tyX13 hp_this.1 rfl inAX13 tyX13_ok nmX13 (by decide) q7_26 rfl rfl rfl rfl (Nat.le_of_ble_eq_true rfl) dX13_mark_43 (fun w43 H locs hM hm => ?_)
      have hp_this : At13 G w43 b thrown changes errorAt failedAt isSaved v before saved past far scratch best thenX thenY thenMet text line isLeft words wordAt textN (hereP + 1) endP lineN 0 isDoing := ⟨hm.1, hm.keep (hp_this.2.1) (by omega), hm.keep (hp_this.2.2.1) (by omega), hm.keep (hp_this.2.2.2.1) (by omega), hm.keep (hp_this.2.2.2.2.1) (by omega), hm.keep (hp_this.2.2.2.2.2.1) (by omega), hm.keep (hp_this.2.2.2.2.2.2.1) (by omega), hm.keep (hp_this.2.2.2.2.2.2.2.1) (by omega), hm.keep (hp_this.2.2.2.2.2.2.2.2.1) (by omega), hm.keep (hp_this.2.2.2.2.2.2.2.2.2.1) (by omega), hm.keep (hp_this.2.2.2.2.2.2.2.2.2.2.1) (by omega), hm.keep (hp_this.2.2.2.2.2.2.2.2.2.2.2.1) (by omega), hm.keep (hp_this.2.2.2.2.2.2.2.2.2.2.2.2) (by omega)⟩
      have hF := hF.tr (hm.fr (by omega) (by omega))
      cases hf
      exact hret hM dX13_mark_46 ⟨hp_this, hF⟩
    · rw [if_neg hcd] at hf
      refine lv_iconst (v := 1) hx hb dX13_mark_17 (by decide) ?_
      refine lv_goto (tgt := 22) hx hb dX13_mark_18 (by decide) ?_
      refine mm_put hC hM (k := 24) tyX13 hp_this.1 rfl inAX13 tyX13_ok nmX13 (by decide) q7_29 rfl rfl rfl (by decide) (Nat.le_of_ble_eq_true rfl) dX13_mark_22 (fun w22 H locs hM hm => ?_)
      have hp_this : At13 G w22 b thrown changes errorAt failedAt isSaved v before saved past far scratch best thenX thenY thenMet text line isLeft words wordAt textN hereP endP lineN 1 isDoing := ⟨hm.1, hm.keep (hp_this.2.1) (by omega), hm.keep (hp_this.2.2.1) (by omega), hm.keep (hp_this.2.2.2.1) (by omega), hm.keep (hp_this.2.2.2.2.1) (by omega), hm.keep (hp_this.2.2.2.2.2.1) (by omega), hm.keep (hp_this.2.2.2.2.2.2.1) (by omega), hm.keep (hp_this.2.2.2.2.2.2.2.1) (by omega), hm.keep (hp_this.2.2.2.2.2.2.2.2.1) (by omega), hm.keep (hp_this.2.2.2.2.2.2.2.2.2.1) (by omega), hm.keep (hp_this.2.2.2.2.2.2.2.2.2.2.1) (by omega), hm.keep (hp_this.2.2.2.2.2.2.2.2.2.2.2.1) (by omega), hm.keep (hp_this.2.2.2.2.2.2.2.2.2.2.2.2) (by omega)⟩
      have hF := hF.tr (hm.fr (by omega) (by omega))
      refine lv_aload_n hx hb dX13_mark_25 rfl (lv_at hl 0 rfl) ?_
      refine lv_dup hx hb dX13_mark_26 rfl ?_
      refine mm_get hC hM (k := 21) hp_this.1 rfl inAX13 (by decide) q7_26 rfl dX13_mark_27 ?_
      refine lv_aload_n hx hb dX13_mark_30 rfl (lv_at hl 0 rfl) ?_
      refine mm_get hC hM (k := 24) hp_this.1 rfl inAX13 (by decide) q7_29 rfl dX13_mark_31 ?_
      refine lv_if_eq (tgt := 41) hx hb dX13_mark_34 (by decide) (fun c => absurd c (by decide)) (fun _ => ?_)
      refine lv_iconst (v := 0) hx hb dX13_mark_37 (by decide) ?_
      refine lv_goto (tgt := 42) hx hb dX13_mark_38 (by decide) ?_
      refine lv_iadd hx hb dX13_mark_42 ?_
      refine mm_put hC hM (k := 21) tyX13 hp_this.1 rfl inAX13 tyX13_ok nmX13 (by decide) q7_26 rfl rfl rfl rfl (Nat.le_of_ble_eq_true rfl) dX13_mark_43 (fun w43 H locs hM hm => ?_)
      have hp_this : At13 G w43 b thrown changes errorAt failedAt isSaved v before saved past far scratch best thenX thenY thenMet text line isLeft words wordAt textN (hereP + 0) endP lineN 1 isDoing := ⟨hm.1, hm.keep (hp_this.2.1) (by omega), hm.keep (hp_this.2.2.1) (by omega), hm.keep (hp_this.2.2.2.1) (by omega), hm.keep (hp_this.2.2.2.2.1) (by omega), hm.keep (hp_this.2.2.2.2.2.1) (by omega), hm.keep (hp_this.2.2.2.2.2.2.1) (by omega), hm.keep (hp_this.2.2.2.2.2.2.2.1) (by omega), hm.keep (hp_this.2.2.2.2.2.2.2.2.1) (by omega), hm.keep (hp_this.2.2.2.2.2.2.2.2.2.1) (by omega), hm.keep (hp_this.2.2.2.2.2.2.2.2.2.2.1) (by omega), hm.keep (hp_this.2.2.2.2.2.2.2.2.2.2.2.1) (by omega), hm.keep (hp_this.2.2.2.2.2.2.2.2.2.2.2.2) (by omega)⟩
      have hF := hF.tr (hm.fr (by omega) (by omega))
      cases hf
      exact hret hM dX13_mark_46 ⟨hp_this, hF⟩
  · rw [if_neg hcd] at hf
    cases hf
    exact hret hM dX13_mark_7 ⟨hp_this, hF⟩
def f_X13_digit (text : Nat → Int32) (hereP : Int32) (endP : Int32) (isWrong : Int32) : Option (Int32 × Int32 × Int32) := if isWrong = 0 then (f_X13_sign text hereP endP).bind fun q11 => (f_X13_isIn q11 48 57).bind fun q18 => if q18 = 0 then some (0, (hereP + 0), 1) else mm_g (mm_ck ((hereP + 1) - 1) 60) (some (((text ((hereP + 1) - 1).toNatClampNeg) - 48), (hereP + 1), 0)) else some (0, hereP, isWrong)
set_option maxHeartbeats 4000000 in
set_option maxRecDepth 100000 in
theorem c_X13_digit (l : Launch) {G : mm_G} {w : va_W} {sz : Nat} {b : Nat} {thrown : Int32} {changes : Int32} {errorAt : Int32} {failedAt : Int32} {isSaved : Int32} {v : Nat → Int32} {before : Nat → Int32} {saved : Nat → Int32} {past : Nat → Int32} {far : Nat → Int32} {scratch : Nat → Int32} {best : Nat → Int32} {thenX : Int32} {thenY : Int32} {thenMet : Int32} {text : Nat → Int32} {line : Nat → Int32} {isLeft : Nat → Int32} {words : Nat → Int32} {wordAt : Nat → Int32} {textN : Int32} {hereP : Int32} {endP : Int32} {lineN : Int32} {isWrong : Int32} {isDoing : Int32} {X : Int32 × Int32 × Int32} (hf : f_X13_digit text hereP endP isWrong = some X) (hp_this : At13 G w b thrown changes errorAt failedAt isSaved v before saved past far scratch best thenX thenY thenMet text line isLeft words wordAt textN hereP endP lineN isWrong isDoing) : Met l yX13_digit (Cond.code yX13_digit cX13_digit 1 (some .int) :: gAll) ({ frames := 1, cells := 0, slots := 0, locals := 22 }) (va_Pc [.ref b] (mm_Pre G w sz)) (mm_Qi G w sz (fun r w' => r = X.1 ∧ At13 G w' b thrown changes errorAt failedAt isSaved v before saved past far scratch best thenX thenY thenMet text line isLeft words wordAt textN X.2.1 endP lineN X.2.2 isDoing ∧ mm_fr w w' b (b + 13))) 0 0 (va_A w sz) := by
  refine mm_headI [.ref b] (by decide +kernel) rfl (Nat.le_of_ble_eq_true rfl) ?_
  intro p e s m args below meth c A Q hsz hC hM hret ls hl
  have hx := hC.1.1
  have hb := hC.1.2.1
  have hl : lv_has ls 1 [(0, .ref b)] := hl
  have hF : mm_fr w w b (b + 13) := mm_fr.rf
  rw [f_X13_digit] at hf
  refine lv_aload_n hx hb dX13_digit_0 rfl (lv_at hl 0 rfl) ?_
  refine mm_get hC hM (k := 24) hp_this.1 rfl inAX13 (by decide) q7_29 rfl dX13_digit_1 ?_
  refine lv_if_eq (tgt := 9) hx hb dX13_digit_4 (by decide) (fun hcd => ?_) (fun hcd => ?_)
  · rw [if_pos hcd] at hf
    refine lv_aload_n hx hb dX13_digit_9 rfl (lv_at hl 0 rfl) ?_
    refine lv_aload_n hx hb dX13_digit_10 rfl (lv_at hl 0 rfl) ?_
    obtain ⟨q11, hq11, hf⟩ := mm_bd hf
    refine mm_Vi (rest := [.ref b]) hC hM (c_X13_sign l hq11 hp_this) q9_18 q1_12 ykX13_sign q9_15 q9_17 qp_38a196e3 hp_this.1 rfl ⟨rfl, rfl⟩ ⟨Nat.le_of_ble_eq_true rfl, Nat.le_of_ble_eq_true rfl⟩ rfl hl.1 rfl (Nat.le_of_ble_eq_true rfl) dX13_digit_11 ⟨Nat.le_of_ble_eq_true rfl, Nat.le_of_ble_eq_true rfl⟩ (fun r w11 H locs hM hw => ?_)
    obtain ⟨hr, hw⟩ := hw
    rw [hr]
    rw [hw] at hM
    refine lv_bipush (v := 48) hx hb dX13_digit_14 (by decide) ?_
    refine lv_bipush (v := 57) hx hb dX13_digit_16 (by decide) ?_
    obtain ⟨q18, hq18, hf⟩ := mm_bd hf
    refine mm_Si (rest := [.ref b]) hC hM (c_X13_isIn l hq18) q7_108 q1_12 ykX13_isIn q7_106 q7_107 ⟨rfl, rfl⟩ ⟨Nat.le_of_ble_eq_true rfl, Nat.le_of_ble_eq_true rfl⟩ rfl hl.1 rfl (Nat.le_of_ble_eq_true rfl) dX13_digit_18 ⟨Nat.le_of_ble_eq_true rfl, Nat.le_of_ble_eq_true rfl⟩ (fun r w18 H locs hM hw => ?_)
    obtain ⟨hr, hw⟩ := hw
    rw [hr]
    rw [hw] at hM
    refine lv_if_ne (tgt := 28) hx hb dX13_digit_21 (by decide) (fun hcd => ?_) (fun hcd => ?_)
    · rw [if_neg hcd] at hf
      refine lv_iconst (v := 0) hx hb dX13_digit_28 (by decide) ?_
      refine mm_put hC hM (k := 24) tyX13 hp_this.1 rfl inAX13 tyX13_ok nmX13 (by decide) q7_29 rfl rfl rfl (by decide) (Nat.le_of_ble_eq_true rfl) dX13_digit_29 (fun w29 H locs hM hm => ?_)
      have hp_this : At13 G w29 b thrown changes errorAt failedAt isSaved v before saved past far scratch best thenX thenY thenMet text line isLeft words wordAt textN hereP endP lineN 0 isDoing := ⟨hm.1, hm.keep (hp_this.2.1) (by omega), hm.keep (hp_this.2.2.1) (by omega), hm.keep (hp_this.2.2.2.1) (by omega), hm.keep (hp_this.2.2.2.2.1) (by omega), hm.keep (hp_this.2.2.2.2.2.1) (by omega), hm.keep (hp_this.2.2.2.2.2.2.1) (by omega), hm.keep (hp_this.2.2.2.2.2.2.2.1) (by omega), hm.keep (hp_this.2.2.2.2.2.2.2.2.1) (by omega), hm.keep (hp_this.2.2.2.2.2.2.2.2.2.1) (by omega), hm.keep (hp_this.2.2.2.2.2.2.2.2.2.2.1) (by omega), hm.keep (hp_this.2.2.2.2.2.2.2.2.2.2.2.1) (by omega), hm.keep (hp_this.2.2.2.2.2.2.2.2.2.2.2.2) (by omega)⟩
      have hF := hF.tr (hm.fr (by omega) (by omega))
      refine lv_aload_n hx hb dX13_digit_32 rfl (lv_at hl 0 rfl) ?_
      refine lv_dup hx hb dX13_digit_33 rfl ?_
      refine mm_get hC hM (k := 21) hp_this.1 rfl inAX13 (by decide) q7_26 rfl dX13_digit_34 ?_
      refine lv_aload_n hx hb dX13_digit_37 rfl (lv_at hl 0 rfl) ?_
      refine mm_get hC hM (k := 24) hp_this.1 rfl inAX13 (by decide) q7_29 rfl dX13_digit_38 ?_
      refine lv_if_eq (tgt := 48) hx hb dX13_digit_41 (by decide) (fun _ => ?_) (fun c => absurd (by decide) c)
      refine lv_iconst (v := 1) hx hb dX13_digit_48 (by decide) ?_
      refine lv_iadd hx hb dX13_digit_49 ?_
      refine mm_put hC hM (k := 21) tyX13 hp_this.1 rfl inAX13 tyX13_ok nmX13 (by decide) q7_26 rfl rfl rfl rfl (Nat.le_of_ble_eq_true rfl) dX13_digit_50 (fun w50 H locs hM hm => ?_)
      have hp_this : At13 G w50 b thrown changes errorAt failedAt isSaved v before saved past far scratch best thenX thenY thenMet text line isLeft words wordAt textN (hereP + 1) endP lineN 0 isDoing := ⟨hm.1, hm.keep (hp_this.2.1) (by omega), hm.keep (hp_this.2.2.1) (by omega), hm.keep (hp_this.2.2.2.1) (by omega), hm.keep (hp_this.2.2.2.2.1) (by omega), hm.keep (hp_this.2.2.2.2.2.1) (by omega), hm.keep (hp_this.2.2.2.2.2.2.1) (by omega), hm.keep (hp_this.2.2.2.2.2.2.2.1) (by omega), hm.keep (hp_this.2.2.2.2.2.2.2.2.1) (by omega), hm.keep (hp_this.2.2.2.2.2.2.2.2.2.1) (by omega), hm.keep (hp_this.2.2.2.2.2.2.2.2.2.2.1) (by omega), hm.keep (hp_this.2.2.2.2.2.2.2.2.2.2.2.1) (by omega), hm.keep (hp_this.2.2.2.2.2.2.2.2.2.2.2.2) (by omega)⟩
      have hF := hF.tr (hm.fr (by omega) (by omega))
      refine lv_aload_n hx hb dX13_digit_53 rfl (lv_at hl 0 rfl) ?_
      refine mm_get hC hM (k := 24) hp_this.1 rfl inAX13 (by decide) q7_29 rfl dX13_digit_54 ?_
      refine lv_if_eq (tgt := 64) hx hb dX13_digit_57 (by decide) (fun _ => ?_) (fun c => absurd (by decide) c)
      refine lv_aload_n hx hb dX13_digit_64 rfl (lv_at hl 0 rfl) ?_
      refine mm_get hC hM (k := 15) hp_this.1 rfl inAX13 (by decide) q7_20 rfl dX13_digit_65 ?_
      refine lv_aload_n hx hb dX13_digit_68 rfl (lv_at hl 0 rfl) ?_
      refine mm_get hC hM (k := 21) hp_this.1 rfl inAX13 (by decide) q7_26 rfl dX13_digit_69 ?_
      refine lv_iconst (v := 1) hx hb dX13_digit_72 (by decide) ?_
      refine lv_isub hx hb dX13_digit_73 ?_
      obtain ⟨hg74, hf⟩ := mm_gd hf
      refine mm_iald hC hM (hp_this.2.2.2.2.2.2.2.2.1) hg74 dX13_digit_74 ?_
      refine lv_bipush (v := 48) hx hb dX13_digit_75 (by decide) ?_
      refine lv_isub hx hb dX13_digit_77 ?_
      cases hf
      exact hret hM dX13_digit_78 rfl ⟨rfl, hp_this, hF⟩
    · rw [if_pos hcd] at hf
      refine lv_iconst (v := 1) hx hb dX13_digit_24 (by decide) ?_
      refine lv_goto (tgt := 29) hx hb dX13_digit_25 (by decide) ?_
      refine mm_put hC hM (k := 24) tyX13 hp_this.1 rfl inAX13 tyX13_ok nmX13 (by decide) q7_29 rfl rfl rfl (by decide) (Nat.le_of_ble_eq_true rfl) dX13_digit_29 (fun w29 H locs hM hm => ?_)
      have hp_this : At13 G w29 b thrown changes errorAt failedAt isSaved v before saved past far scratch best thenX thenY thenMet text line isLeft words wordAt textN hereP endP lineN 1 isDoing := ⟨hm.1, hm.keep (hp_this.2.1) (by omega), hm.keep (hp_this.2.2.1) (by omega), hm.keep (hp_this.2.2.2.1) (by omega), hm.keep (hp_this.2.2.2.2.1) (by omega), hm.keep (hp_this.2.2.2.2.2.1) (by omega), hm.keep (hp_this.2.2.2.2.2.2.1) (by omega), hm.keep (hp_this.2.2.2.2.2.2.2.1) (by omega), hm.keep (hp_this.2.2.2.2.2.2.2.2.1) (by omega), hm.keep (hp_this.2.2.2.2.2.2.2.2.2.1) (by omega), hm.keep (hp_this.2.2.2.2.2.2.2.2.2.2.1) (by omega), hm.keep (hp_this.2.2.2.2.2.2.2.2.2.2.2.1) (by omega), hm.keep (hp_this.2.2.2.2.2.2.2.2.2.2.2.2) (by omega)⟩
      have hF := hF.tr (hm.fr (by omega) (by omega))
      refine lv_aload_n hx hb dX13_digit_32 rfl (lv_at hl 0 rfl) ?_
      refine lv_dup hx hb dX13_digit_33 rfl ?_
      refine mm_get hC hM (k := 21) hp_this.1 rfl inAX13 (by decide) q7_26 rfl dX13_digit_34 ?_
      refine lv_aload_n hx hb dX13_digit_37 rfl (lv_at hl 0 rfl) ?_
      refine mm_get hC hM (k := 24) hp_this.1 rfl inAX13 (by decide) q7_29 rfl dX13_digit_38 ?_
      refine lv_if_eq (tgt := 48) hx hb dX13_digit_41 (by decide) (fun c => absurd c (by decide)) (fun _ => ?_)
      refine lv_iconst (v := 0) hx hb dX13_digit_44 (by decide) ?_
      refine lv_goto (tgt := 49) hx hb dX13_digit_45 (by decide) ?_
      refine lv_iadd hx hb dX13_digit_49 ?_
      refine mm_put hC hM (k := 21) tyX13 hp_this.1 rfl inAX13 tyX13_ok nmX13 (by decide) q7_26 rfl rfl rfl rfl (Nat.le_of_ble_eq_true rfl) dX13_digit_50 (fun w50 H locs hM hm => ?_)
      have hp_this : At13 G w50 b thrown changes errorAt failedAt isSaved v before saved past far scratch best thenX thenY thenMet text line isLeft words wordAt textN (hereP + 0) endP lineN 1 isDoing := ⟨hm.1, hm.keep (hp_this.2.1) (by omega), hm.keep (hp_this.2.2.1) (by omega), hm.keep (hp_this.2.2.2.1) (by omega), hm.keep (hp_this.2.2.2.2.1) (by omega), hm.keep (hp_this.2.2.2.2.2.1) (by omega), hm.keep (hp_this.2.2.2.2.2.2.1) (by omega), hm.keep (hp_this.2.2.2.2.2.2.2.1) (by omega), hm.keep (hp_this.2.2.2.2.2.2.2.2.1) (by omega), hm.keep (hp_this.2.2.2.2.2.2.2.2.2.1) (by omega), hm.keep (hp_this.2.2.2.2.2.2.2.2.2.2.1) (by omega), hm.keep (hp_this.2.2.2.2.2.2.2.2.2.2.2.1) (by omega), hm.keep (hp_this.2.2.2.2.2.2.2.2.2.2.2.2) (by omega)⟩
      have hF := hF.tr (hm.fr (by omega) (by omega))
      refine lv_aload_n hx hb dX13_digit_53 rfl (lv_at hl 0 rfl) ?_
      refine mm_get hC hM (k := 24) hp_this.1 rfl inAX13 (by decide) q7_29 rfl dX13_digit_54 ?_
      refine lv_if_eq (tgt := 64) hx hb dX13_digit_57 (by decide) (fun c => absurd c (by decide)) (fun _ => ?_)
      refine lv_iconst (v := 0) hx hb dX13_digit_60 (by decide) ?_
      refine lv_goto (tgt := 78) hx hb dX13_digit_61 (by decide) ?_
      cases hf
      exact hret hM dX13_digit_78 rfl ⟨rfl, hp_this, hF⟩
  · rw [if_neg hcd] at hf
    refine lv_iconst (v := 0) hx hb dX13_digit_7 (by decide) ?_
    cases hf
    exact hret hM dX13_digit_8 rfl ⟨rfl, hp_this, hF⟩
def f_X13_word_L2 : Nat → (Int32) → (Nat → Int32) → Option (Nat → Int32)
  | 0, _, _ => none
  | n + 1, x1, isLeft => if 11 ≤ x1 then some isLeft else mm_g (mm_ck x1 11) (f_X13_word_L2 n (x1 + 1) (upd isLeft x1.toNatClampNeg 1))
def f_X13_word_L41 (text : Nat → Int32) (words : Nat → Int32) (wordAt : Nat → Int32) (hereP : Int32) (endP : Int32) (x1 : Int32) : Nat → (Int32) → (Int32) → (Nat → Int32) → Option (Int32 × (Nat → Int32))
  | 0, _, _, _ => none
  | n + 1, x3, x4, isLeft => if 11 ≤ x4 then some (x3, isLeft) else mm_g (mm_ck x4 11) (mm_g (mm_ck x4 12) (mm_g (mm_ck (x4 + 1) 12) (if (wordAt (x4 + 1).toNatClampNeg) ≤ ((wordAt x4.toNatClampNeg) + x1) then mm_g (mm_ck x4 11) (mm_g (mm_ck x4 11) (if ((upd isLeft x4.toNatClampNeg ((isLeft x4.toNatClampNeg) &&& 0)) x4.toNatClampNeg) = 1 then f_X13_word_L41 text words wordAt hereP endP x1 n (x3 ||| 1) (x4 + 1) (upd isLeft x4.toNatClampNeg ((isLeft x4.toNatClampNeg) &&& 0)) else f_X13_word_L41 text words wordAt hereP endP x1 n (x3 ||| 0) (x4 + 1) (upd isLeft x4.toNatClampNeg ((isLeft x4.toNatClampNeg) &&& 0)))) else mm_g (mm_ck x4 12) (mm_g (mm_ck ((wordAt x4.toNatClampNeg) + x1) 61) ((f_X13_sign text hereP endP).bind fun q92 => if (words ((wordAt x4.toNatClampNeg) + x1).toNatClampNeg) = q92 then mm_g (mm_ck x4 11) (mm_g (mm_ck x4 11) (if ((upd isLeft x4.toNatClampNeg ((isLeft x4.toNatClampNeg) &&& 1)) x4.toNatClampNeg) = 1 then f_X13_word_L41 text words wordAt hereP endP x1 n (x3 ||| 1) (x4 + 1) (upd isLeft x4.toNatClampNeg ((isLeft x4.toNatClampNeg) &&& 1)) else f_X13_word_L41 text words wordAt hereP endP x1 n (x3 ||| 0) (x4 + 1) (upd isLeft x4.toNatClampNeg ((isLeft x4.toNatClampNeg) &&& 1)))) else mm_g (mm_ck x4 11) (mm_g (mm_ck x4 11) (if ((upd isLeft x4.toNatClampNeg ((isLeft x4.toNatClampNeg) &&& 0)) x4.toNatClampNeg) = 1 then f_X13_word_L41 text words wordAt hereP endP x1 n (x3 ||| 1) (x4 + 1) (upd isLeft x4.toNatClampNeg ((isLeft x4.toNatClampNeg) &&& 0)) else f_X13_word_L41 text words wordAt hereP endP x1 n (x3 ||| 0) (x4 + 1) (upd isLeft x4.toNatClampNeg ((isLeft x4.toNatClampNeg) &&& 0)))))))))
def f_X13_word_L167 (isLeft : Nat → Int32) (wordAt : Nat → Int32) (x1 : Int32) : Nat → (Int32) → (Int32) → Option (Int32)
  | 0, _, _ => none
  | n + 1, x2, x4 => if 11 ≤ x4 then some x2 else mm_g (mm_ck x4 11) (if (isLeft x4.toNatClampNeg) = 1 then mm_g (mm_ck x4 12) (mm_g (mm_ck (x4 + 1) 12) (if ((wordAt x4.toNatClampNeg) + x1) = (wordAt (x4 + 1).toNatClampNeg) then f_X13_word_L167 isLeft wordAt x1 n x4 (x4 + 1) else f_X13_word_L167 isLeft wordAt x1 n x2 (x4 + 1))) else f_X13_word_L167 isLeft wordAt x1 n x2 (x4 + 1))
def f_X13_word_L25 (K : Nat) (text : Nat → Int32) (words : Nat → Int32) (wordAt : Nat → Int32) (endP : Int32) : Nat → (Int32) → (Int32) → (Nat → Int32) → (Int32) → (Int32) → Option (Int32 × (Nat → Int32) × Int32 × Int32)
  | 0, _, _, _, _, _ => none
  | n + 1, x1, x2, isLeft, hereP, isWrong => if 0 ≤ x2 then some (x2, isLeft, hereP, isWrong) else if isWrong = 0 then (f_X13_word_L41 text words wordAt hereP endP x1 K 0 0 isLeft).bind fun q41 => if q41.1 = 0 then if q41.1 = 0 then (f_X13_word_L167 q41.2 wordAt (x1 + 1) K x2 0).bind fun q167 => f_X13_word_L25 K text words wordAt endP n (x1 + 1) q167 q41.2 (hereP + 0) 1 else (f_X13_word_L167 q41.2 wordAt (x1 + 1) K x2 0).bind fun q167 => f_X13_word_L25 K text words wordAt endP n (x1 + 1) q167 q41.2 (hereP + 1) 1 else if q41.1 = 0 then (f_X13_word_L167 q41.2 wordAt (x1 + 1) K x2 0).bind fun q167 => f_X13_word_L25 K text words wordAt endP n (x1 + 1) q167 q41.2 (hereP + 0) 0 else (f_X13_word_L167 q41.2 wordAt (x1 + 1) K x2 0).bind fun q167 => f_X13_word_L25 K text words wordAt endP n (x1 + 1) q167 q41.2 (hereP + 1) 0 else some (x2, isLeft, hereP, isWrong)
def f_X13_word (K : Nat) (text : Nat → Int32) (isLeft : Nat → Int32) (words : Nat → Int32) (wordAt : Nat → Int32) (hereP : Int32) (endP : Int32) (isWrong : Int32) : Option (Int32 × (Nat → Int32) × Int32 × Int32) := (f_X13_word_L2 K 0 isLeft).bind fun q2 => (f_X13_word_L25 K text words wordAt endP K 0 (-1) q2 hereP isWrong).bind fun q25 => some (q25.1, q25.2.1, q25.2.2.1, q25.2.2.2)
set_option maxHeartbeats 4000000 in
set_option maxRecDepth 100000 in
theorem c_X13_word (l : Launch) {G : mm_G} {K : Nat} {w : va_W} {sz : Nat} {b : Nat} {thrown : Int32} {changes : Int32} {errorAt : Int32} {failedAt : Int32} {isSaved : Int32} {v : Nat → Int32} {before : Nat → Int32} {saved : Nat → Int32} {past : Nat → Int32} {far : Nat → Int32} {scratch : Nat → Int32} {best : Nat → Int32} {thenX : Int32} {thenY : Int32} {thenMet : Int32} {text : Nat → Int32} {line : Nat → Int32} {isLeft : Nat → Int32} {words : Nat → Int32} {wordAt : Nat → Int32} {textN : Int32} {hereP : Int32} {endP : Int32} {lineN : Int32} {isWrong : Int32} {isDoing : Int32} {X : Int32 × (Nat → Int32) × Int32 × Int32} (hf : f_X13_word K text isLeft words wordAt hereP endP isWrong = some X) (hp_this : At13 G w b thrown changes errorAt failedAt isSaved v before saved past far scratch best thenX thenY thenMet text line isLeft words wordAt textN hereP endP lineN isWrong isDoing) : Met l yX13_word (Cond.code yX13_word cX13_word 5 (some .int) :: gAll) ({ frames := 1, cells := 0, slots := 0, locals := 20 }) (va_Pc [.ref b] (mm_Pre G w sz)) (mm_Qi G w sz (fun r w' => r = X.1 ∧ At13 G w' b thrown changes errorAt failedAt isSaved v before saved past far scratch best thenX thenY thenMet text line X.2.1 words wordAt textN X.2.2.1 endP lineN X.2.2.2 isDoing ∧ mm_fr w w' b (b + 13))) 0 0 (va_A w sz) := by
  refine mm_headI [.ref b] (by decide +kernel) rfl (Nat.le_of_ble_eq_true rfl) ?_
  intro p e s m args below meth c A Q hsz hC hM hret ls hl
  have hx := hC.1.1
  have hb := hC.1.2.1
  have hl : lv_has ls 5 [(0, .ref b)] := hl
  have hF : mm_fr w w b (b + 13) := mm_fr.rf
  rw [f_X13_word] at hf
  refine lv_iconst (v := 0) hx hb dX13_word_0 (by decide) ?_
  refine lv_istore_n (lv' := [(1, .int 0), (0, .ref b)]) hx hb dX13_word_1 rfl hl (by decide) rfl (fun ls hl => ?_)
  have L2 : ∀ (n : Nat) (L2_x1 : Int32) (L2_isLeft : Nat → Int32) (X : Nat → Int32), f_X13_word_L2 n L2_x1 L2_isLeft = some X → ∀ (L2_w : va_W) (H : Heap) (locs : List Loc), mm_S G A s.heap L2_w H locs → At13 G L2_w b thrown changes errorAt failedAt isSaved v before saved past far scratch best thenX thenY thenMet text line L2_isLeft words wordAt textN hereP endP lineN isWrong isDoing → mm_fr w L2_w b (b + 13) → ∀ (ls : Array Slot), lv_has ls 5 [(0, .ref b), (1, .int L2_x1)] → (∀ (w9 : va_W) (H : Heap) (locs : List Loc), mm_S G A s.heap w9 H locs → At13 G w9 b thrown changes errorAt failedAt isSaved v before saved past far scratch best thenX thenY thenMet text line X words wordAt textN hereP endP lineN isWrong isDoing → mm_fr w w9 b (b + 13) → ∀ (ls : Array Slot), lv_has ls 5 [(0, .ref b)] → W p l e ({ frames := 1, cells := 0, slots := 0, locals := 20 } : Room) s m args below meth c H locs 0 0 Q (F0 m 21 ls [])) → W p l e ({ frames := 1, cells := 0, slots := 0, locals := 20 } : Room) s m args below meth c H locs 0 0 Q (F0 m 2 ls []) := by
    intro n
    induction n with
    | zero => intro L2_x1 L2_isLeft X hf; cases hf
    | succ n ih =>
      intro L2_x1 L2_isLeft X hf L2_w H locs hM hp_this hF ls hl hk
      rw [f_X13_word_L2] at hf
      refine lv_iload_n hx hb dX13_word_2 rfl (lv_at hl 1 rfl) ?_
      refine lv_bipush (v := 11) hx hb dX13_word_3 (by decide) ?_
      refine lv_icmp_ge (tgt := 21) hx hb dX13_word_5 (by decide) (fun hcd => ?_) (fun hcd => ?_)
      · rw [if_pos hcd] at hf
        cases hf
        exact hk _ _ _ hM hp_this hF _ (lv_sub hl [0] rfl)
      · rw [if_neg hcd] at hf
        refine lv_aload_n hx hb dX13_word_8 rfl (lv_at hl 0 rfl) ?_
        refine mm_get hC hM (k := 17) hp_this.1 rfl inAX13 (by decide) q7_22 rfl dX13_word_9 ?_
        refine lv_iload_n hx hb dX13_word_12 rfl (lv_at hl 1 rfl) ?_
        refine lv_iconst (v := 1) hx hb dX13_word_13 (by decide) ?_
        obtain ⟨hg14, hf⟩ := mm_gd hf
        refine mm_iast hC hM (hp_this.2.2.2.2.2.2.2.2.2.2.1) hg14 dX13_word_14 (fun w14 H locs hM hm => ?_)
        have hp_this : At13 G w14 b thrown changes errorAt failedAt isSaved v before saved past far scratch best thenX thenY thenMet text line (upd L2_isLeft L2_x1.toNatClampNeg 1) words wordAt textN hereP endP lineN isWrong isDoing := ⟨hm.keep (hp_this.1) (by omega), hm.keep (hp_this.2.1) (by omega), hm.keep (hp_this.2.2.1) (by omega), hm.keep (hp_this.2.2.2.1) (by omega), hm.keep (hp_this.2.2.2.2.1) (by omega), hm.keep (hp_this.2.2.2.2.2.1) (by omega), hm.keep (hp_this.2.2.2.2.2.2.1) (by omega), hm.keep (hp_this.2.2.2.2.2.2.2.1) (by omega), hm.keep (hp_this.2.2.2.2.2.2.2.2.1) (by omega), hm.keep (hp_this.2.2.2.2.2.2.2.2.2.1) (by omega), hm.1, hm.keep (hp_this.2.2.2.2.2.2.2.2.2.2.2.1) (by omega), hm.keep (hp_this.2.2.2.2.2.2.2.2.2.2.2.2) (by omega)⟩
        have hF := hF.tr (hm.fr (by omega) (by omega))
        refine lv_iinc (v := (L2_x1 + 1)) (lv' := [(1, .int (L2_x1 + 1)), (0, .ref b)]) hx hb dX13_word_15 hl (k := 1) rfl rfl (by decide) rfl (fun ls hl => ?_)
        refine lv_goto (tgt := 2) hx hb dX13_word_18 (by decide) ?_
        exact ih _ _ _ hf _ _ _ hM hp_this hF _ (lv_sub hl [1, 0] rfl) hk
  obtain ⟨q2, hq2, hf⟩ := mm_bd hf
  refine L2 K _ _ _ hq2 _ _ _ hM hp_this hF _ (lv_sub hl [1, 0] rfl) (fun w2 H locs hM hp_this hF ls hl => ?_)
  refine lv_iconst (v := 0) hx hb dX13_word_21 (by decide) ?_
  refine lv_istore_n (lv' := [(1, .int 0), (0, .ref b)]) hx hb dX13_word_22 rfl hl (by decide) rfl (fun ls hl => ?_)
  refine lv_iconst (v := (-1)) hx hb dX13_word_23 (by decide) ?_
  refine lv_istore_n (lv' := [(2, .int (-1)), (1, .int 0), (0, .ref b)]) hx hb dX13_word_24 rfl hl (by decide) rfl (fun ls hl => ?_)
  have L25 : ∀ (n : Nat) (L25_x1 : Int32) (L25_x2 : Int32) (L25_isLeft : Nat → Int32) (L25_hereP : Int32) (L25_isWrong : Int32) (X : Int32 × (Nat → Int32) × Int32 × Int32), f_X13_word_L25 K text words wordAt endP n L25_x1 L25_x2 L25_isLeft L25_hereP L25_isWrong = some X → ∀ (L25_w : va_W) (H : Heap) (locs : List Loc), mm_S G A s.heap L25_w H locs → At13 G L25_w b thrown changes errorAt failedAt isSaved v before saved past far scratch best thenX thenY thenMet text line L25_isLeft words wordAt textN L25_hereP endP lineN L25_isWrong isDoing → mm_fr w L25_w b (b + 13) → ∀ (ls : Array Slot), lv_has ls 5 [(0, .ref b), (1, .int L25_x1), (2, .int L25_x2)] → (∀ (w9 : va_W) (H : Heap) (locs : List Loc), mm_S G A s.heap w9 H locs → At13 G w9 b thrown changes errorAt failedAt isSaved v before saved past far scratch best thenX thenY thenMet text line X.2.1 words wordAt textN X.2.2.1 endP lineN X.2.2.2 isDoing → mm_fr w w9 b (b + 13) → ∀ (ls : Array Slot), lv_has ls 5 [(2, .int X.1)] → W p l e ({ frames := 1, cells := 0, slots := 0, locals := 20 } : Room) s m args below meth c H locs 0 0 Q (F0 m 222 ls [])) → W p l e ({ frames := 1, cells := 0, slots := 0, locals := 20 } : Room) s m args below meth c H locs 0 0 Q (F0 m 25 ls []) := by
    intro n
    induction n with
    | zero => intro L25_x1 L25_x2 L25_isLeft L25_hereP L25_isWrong X hf; cases hf
    | succ n ih =>
      intro L25_x1 L25_x2 L25_isLeft L25_hereP L25_isWrong X hf L25_w H locs hM hp_this hF ls hl hk
      rw [f_X13_word_L25] at hf
      refine lv_iload_n hx hb dX13_word_25 rfl (lv_at hl 2 rfl) ?_
      refine lv_if_ge (tgt := 222) hx hb dX13_word_26 (by decide) (fun hcd => ?_) (fun hcd => ?_)
      · rw [if_pos hcd] at hf
        cases hf
        exact hk _ _ _ hM hp_this hF _ (lv_sub hl [2] rfl)
      · rw [if_neg hcd] at hf
        refine lv_aload_n hx hb dX13_word_29 rfl (lv_at hl 0 rfl) ?_
        refine mm_get hC hM (k := 24) hp_this.1 rfl inAX13 (by decide) q7_29 rfl dX13_word_30 ?_
        refine lv_if_ne (tgt := 222) hx hb dX13_word_33 (by decide) (fun hcd => ?_) (fun hcd => ?_)
        · rw [if_neg hcd] at hf
          cases hf
          exact hk _ _ _ hM hp_this hF _ (lv_sub hl [2] rfl)
        · rw [if_pos hcd] at hf
          refine lv_iconst (v := 0) hx hb dX13_word_36 (by decide) ?_
          refine lv_istore_n (lv' := [(3, .int 0), (0, .ref b), (1, .int L25_x1), (2, .int L25_x2)]) hx hb dX13_word_37 rfl hl (by decide) rfl (fun ls hl => ?_)
          refine lv_iconst (v := 0) hx hb dX13_word_38 (by decide) ?_
          refine lv_istore (lv' := [(4, .int 0), (3, .int 0), (0, .ref b), (1, .int L25_x1), (2, .int L25_x2)]) hx hb dX13_word_39 hl (by decide) rfl (fun ls hl => ?_)
          have L41 : ∀ (n : Nat) (L41_x3 : Int32) (L41_x4 : Int32) (L41_isLeft : Nat → Int32) (X : Int32 × (Nat → Int32)), f_X13_word_L41 text words wordAt L25_hereP endP L25_x1 n L41_x3 L41_x4 L41_isLeft = some X → ∀ (L41_w : va_W) (H : Heap) (locs : List Loc), mm_S G A s.heap L41_w H locs → At13 G L41_w b thrown changes errorAt failedAt isSaved v before saved past far scratch best thenX thenY thenMet text line L41_isLeft words wordAt textN L25_hereP endP lineN L25_isWrong isDoing → mm_fr w L41_w b (b + 13) → ∀ (ls : Array Slot), lv_has ls 5 [(0, .ref b), (1, .int L25_x1), (2, .int L25_x2), (3, .int L41_x3), (4, .int L41_x4)] → (∀ (w9 : va_W) (H : Heap) (locs : List Loc), mm_S G A s.heap w9 H locs → At13 G w9 b thrown changes errorAt failedAt isSaved v before saved past far scratch best thenX thenY thenMet text line X.2 words wordAt textN L25_hereP endP lineN L25_isWrong isDoing → mm_fr w w9 b (b + 13) → ∀ (ls : Array Slot), lv_has ls 5 [(0, .ref b), (1, .int L25_x1), (2, .int L25_x2), (3, .int X.1)] → W p l e ({ frames := 1, cells := 0, slots := 0, locals := 20 } : Room) s m args below meth c H locs 0 0 Q (F0 m 130 ls [])) → W p l e ({ frames := 1, cells := 0, slots := 0, locals := 20 } : Room) s m args below meth c H locs 0 0 Q (F0 m 41 ls []) := by
            intro n
            induction n with
            | zero => intro L41_x3 L41_x4 L41_isLeft X hf; cases hf
            | succ n ih =>
              intro L41_x3 L41_x4 L41_isLeft X hf L41_w H locs hM hp_this hF ls hl hk
              rw [f_X13_word_L41] at hf
              refine lv_iload hx hb dX13_word_41 (lv_at hl 4 rfl) ?_
              refine lv_bipush (v := 11) hx hb dX13_word_43 (by decide) ?_
              refine lv_icmp_ge (tgt := 130) hx hb dX13_word_45 (by decide) (fun hcd => ?_) (fun hcd => ?_)
              · rw [if_pos hcd] at hf
                cases hf
                exact hk _ _ _ hM hp_this hF _ (lv_sub hl [0, 1, 2, 3] rfl)
              · rw [if_neg hcd] at hf
                refine lv_aload_n hx hb dX13_word_48 rfl (lv_at hl 0 rfl) ?_
                refine mm_get hC hM (k := 17) hp_this.1 rfl inAX13 (by decide) q7_22 rfl dX13_word_49 ?_
                refine lv_iload hx hb dX13_word_52 (lv_at hl 4 rfl) ?_
                refine lv_dup2_11 hx hb dX13_word_54 rfl rfl ?_
                obtain ⟨hg55, hf⟩ := mm_gd hf
                refine mm_iald hC hM (hp_this.2.2.2.2.2.2.2.2.2.2.1) hg55 dX13_word_55 ?_
                refine lv_aload_n hx hb dX13_word_56 rfl (lv_at hl 0 rfl) ?_
                refine mm_get hC hM (k := 19) hp_this.1 rfl inAX13 (by decide) q7_24 rfl dX13_word_57 ?_
                refine lv_iload hx hb dX13_word_60 (lv_at hl 4 rfl) ?_
                obtain ⟨hg62, hf⟩ := mm_gd hf
                refine mm_iald hC hM (hp_this.2.2.2.2.2.2.2.2.2.2.2.2) hg62 dX13_word_62 ?_
                refine lv_iload_n hx hb dX13_word_63 rfl (lv_at hl 1 rfl) ?_
                refine lv_iadd hx hb dX13_word_64 ?_
                refine lv_aload_n hx hb dX13_word_65 rfl (lv_at hl 0 rfl) ?_
                refine mm_get hC hM (k := 19) hp_this.1 rfl inAX13 (by decide) q7_24 rfl dX13_word_66 ?_
                refine lv_iload hx hb dX13_word_69 (lv_at hl 4 rfl) ?_
                refine lv_iconst (v := 1) hx hb dX13_word_71 (by decide) ?_
                refine lv_iadd hx hb dX13_word_72 ?_
                obtain ⟨hg73, hf⟩ := mm_gd hf
                refine mm_iald hC hM (hp_this.2.2.2.2.2.2.2.2.2.2.2.2) hg73 dX13_word_73 ?_
                refine lv_icmp_ge (tgt := 102) hx hb dX13_word_74 (by decide) (fun hcd => ?_) (fun hcd => ?_)
                · rw [if_pos hcd] at hf
                  refine lv_iconst (v := 0) hx hb dX13_word_102 (by decide) ?_
                  refine lv_iand hx hb dX13_word_103 ?_
                  obtain ⟨hg104, hf⟩ := mm_gd hf
                  refine mm_iast hC hM (hp_this.2.2.2.2.2.2.2.2.2.2.1) hg104 dX13_word_104 (fun w104 H locs hM hm => ?_)
                  have hp_this : At13 G w104 b thrown changes errorAt failedAt isSaved v before saved past far scratch best thenX thenY thenMet text line (upd L41_isLeft L41_x4.toNatClampNeg ((L41_isLeft L41_x4.toNatClampNeg) &&& 0)) words wordAt textN L25_hereP endP lineN L25_isWrong isDoing := ⟨hm.keep (hp_this.1) (by omega), hm.keep (hp_this.2.1) (by omega), hm.keep (hp_this.2.2.1) (by omega), hm.keep (hp_this.2.2.2.1) (by omega), hm.keep (hp_this.2.2.2.2.1) (by omega), hm.keep (hp_this.2.2.2.2.2.1) (by omega), hm.keep (hp_this.2.2.2.2.2.2.1) (by omega), hm.keep (hp_this.2.2.2.2.2.2.2.1) (by omega), hm.keep (hp_this.2.2.2.2.2.2.2.2.1) (by omega), hm.keep (hp_this.2.2.2.2.2.2.2.2.2.1) (by omega), hm.1, hm.keep (hp_this.2.2.2.2.2.2.2.2.2.2.2.1) (by omega), hm.keep (hp_this.2.2.2.2.2.2.2.2.2.2.2.2) (by omega)⟩
                  have hF := hF.tr (hm.fr (by omega) (by omega))
                  refine lv_iload_n hx hb dX13_word_105 rfl (lv_at hl 3 rfl) ?_
                  refine lv_aload_n hx hb dX13_word_106 rfl (lv_at hl 0 rfl) ?_
                  refine mm_get hC hM (k := 17) hp_this.1 rfl inAX13 (by decide) q7_22 rfl dX13_word_107 ?_
                  refine lv_iload hx hb dX13_word_110 (lv_at hl 4 rfl) ?_
                  obtain ⟨hg112, hf⟩ := mm_gd hf
                  refine mm_iald hC hM (hp_this.2.2.2.2.2.2.2.2.2.2.1) hg112 dX13_word_112 ?_
                  refine lv_iconst (v := 1) hx hb dX13_word_113 (by decide) ?_
                  refine lv_icmp_ne (tgt := 121) hx hb dX13_word_114 (by decide) (fun hcd => ?_) (fun hcd => ?_)
                  · rw [if_neg hcd] at hf
                    refine lv_iconst (v := 0) hx hb dX13_word_121 (by decide) ?_
                    refine lv_ior hx hb dX13_word_122 ?_
                    refine lv_istore_n (lv' := [(3, .int (L41_x3 ||| 0)), (0, .ref b), (1, .int L25_x1), (2, .int L25_x2), (4, .int L41_x4)]) hx hb dX13_word_123 rfl hl (by decide) rfl (fun ls hl => ?_)
                    refine lv_iinc (v := (L41_x4 + 1)) (lv' := [(4, .int (L41_x4 + 1)), (3, .int (L41_x3 ||| 0)), (0, .ref b), (1, .int L25_x1), (2, .int L25_x2)]) hx hb dX13_word_124 hl (k := 4) rfl rfl (by decide) rfl (fun ls hl => ?_)
                    refine lv_goto (tgt := 41) hx hb dX13_word_127 (by decide) ?_
                    exact ih _ _ _ _ hf _ _ _ hM hp_this hF _ (lv_sub hl [2, 3, 4, 1, 0] rfl) hk
                  · rw [if_pos hcd] at hf
                    refine lv_iconst (v := 1) hx hb dX13_word_117 (by decide) ?_
                    refine lv_goto (tgt := 122) hx hb dX13_word_118 (by decide) ?_
                    refine lv_ior hx hb dX13_word_122 ?_
                    refine lv_istore_n (lv' := [(3, .int (L41_x3 ||| 1)), (0, .ref b), (1, .int L25_x1), (2, .int L25_x2), (4, .int L41_x4)]) hx hb dX13_word_123 rfl hl (by decide) rfl (fun ls hl => ?_)
                    refine lv_iinc (v := (L41_x4 + 1)) (lv' := [(4, .int (L41_x4 + 1)), (3, .int (L41_x3 ||| 1)), (0, .ref b), (1, .int L25_x1), (2, .int L25_x2)]) hx hb dX13_word_124 hl (k := 4) rfl rfl (by decide) rfl (fun ls hl => ?_)
                    refine lv_goto (tgt := 41) hx hb dX13_word_127 (by decide) ?_
                    exact ih _ _ _ _ hf _ _ _ hM hp_this hF _ (lv_sub hl [2, 3, 4, 1, 0] rfl) hk
                · rw [if_neg hcd] at hf
                  refine lv_aload_n hx hb dX13_word_77 rfl (lv_at hl 0 rfl) ?_
                  refine mm_get hC hM (k := 18) hp_this.1 rfl inAX13 (by decide) q7_23 rfl dX13_word_78 ?_
                  refine lv_aload_n hx hb dX13_word_81 rfl (lv_at hl 0 rfl) ?_
                  refine mm_get hC hM (k := 19) hp_this.1 rfl inAX13 (by decide) q7_24 rfl dX13_word_82 ?_
                  refine lv_iload hx hb dX13_word_85 (lv_at hl 4 rfl) ?_
                  obtain ⟨hg87, hf⟩ := mm_gd hf
                  refine mm_iald hC hM (hp_this.2.2.2.2.2.2.2.2.2.2.2.2) hg87 dX13_word_87 ?_
                  refine lv_iload_n hx hb dX13_word_88 rfl (lv_at hl 1 rfl) ?_
                  refine lv_iadd hx hb dX13_word_89 ?_
                  obtain ⟨hg90, hf⟩ := mm_gd hf
                  refine mm_iald hC hM (hp_this.2.2.2.2.2.2.2.2.2.2.2.1) hg90 dX13_word_90 ?_
                  refine lv_aload_n hx hb dX13_word_91 rfl (lv_at hl 0 rfl) ?_
                  obtain ⟨q92, hq92, hf⟩ := mm_bd hf
                  refine mm_Vi (rest := [.int (words ((wordAt L41_x4.toNatClampNeg) + L25_x1).toNatClampNeg), .int (L41_isLeft L41_x4.toNatClampNeg), .int L41_x4, .ref (b + 10)]) hC hM (c_X13_sign l hq92 hp_this) q9_18 q1_12 ykX13_sign q9_15 q9_17 qp_38a196e3 hp_this.1 rfl ⟨rfl, rfl⟩ ⟨Nat.le_of_ble_eq_true rfl, Nat.le_of_ble_eq_true rfl⟩ rfl hl.1 rfl (Nat.le_of_ble_eq_true rfl) dX13_word_92 ⟨Nat.le_of_ble_eq_true rfl, Nat.le_of_ble_eq_true rfl⟩ (fun r w92 H locs hM hw => ?_)
                  obtain ⟨hr, hw⟩ := hw
                  rw [hr]
                  rw [hw] at hM
                  refine lv_icmp_ne (tgt := 102) hx hb dX13_word_95 (by decide) (fun hcd => ?_) (fun hcd => ?_)
                  · rw [if_neg hcd] at hf
                    refine lv_iconst (v := 0) hx hb dX13_word_102 (by decide) ?_
                    refine lv_iand hx hb dX13_word_103 ?_
                    obtain ⟨hg104, hf⟩ := mm_gd hf
                    refine mm_iast hC hM (hp_this.2.2.2.2.2.2.2.2.2.2.1) hg104 dX13_word_104 (fun w104 H locs hM hm => ?_)
                    have hp_this : At13 G w104 b thrown changes errorAt failedAt isSaved v before saved past far scratch best thenX thenY thenMet text line (upd L41_isLeft L41_x4.toNatClampNeg ((L41_isLeft L41_x4.toNatClampNeg) &&& 0)) words wordAt textN L25_hereP endP lineN L25_isWrong isDoing := ⟨hm.keep (hp_this.1) (by omega), hm.keep (hp_this.2.1) (by omega), hm.keep (hp_this.2.2.1) (by omega), hm.keep (hp_this.2.2.2.1) (by omega), hm.keep (hp_this.2.2.2.2.1) (by omega), hm.keep (hp_this.2.2.2.2.2.1) (by omega), hm.keep (hp_this.2.2.2.2.2.2.1) (by omega), hm.keep (hp_this.2.2.2.2.2.2.2.1) (by omega), hm.keep (hp_this.2.2.2.2.2.2.2.2.1) (by omega), hm.keep (hp_this.2.2.2.2.2.2.2.2.2.1) (by omega), hm.1, hm.keep (hp_this.2.2.2.2.2.2.2.2.2.2.2.1) (by omega), hm.keep (hp_this.2.2.2.2.2.2.2.2.2.2.2.2) (by omega)⟩
                    have hF := hF.tr (hm.fr (by omega) (by omega))
                    refine lv_iload_n hx hb dX13_word_105 rfl (lv_at hl 3 rfl) ?_
                    refine lv_aload_n hx hb dX13_word_106 rfl (lv_at hl 0 rfl) ?_
                    refine mm_get hC hM (k := 17) hp_this.1 rfl inAX13 (by decide) q7_22 rfl dX13_word_107 ?_
                    refine lv_iload hx hb dX13_word_110 (lv_at hl 4 rfl) ?_
                    obtain ⟨hg112, hf⟩ := mm_gd hf
                    refine mm_iald hC hM (hp_this.2.2.2.2.2.2.2.2.2.2.1) hg112 dX13_word_112 ?_
                    refine lv_iconst (v := 1) hx hb dX13_word_113 (by decide) ?_
                    refine lv_icmp_ne (tgt := 121) hx hb dX13_word_114 (by decide) (fun hcd => ?_) (fun hcd => ?_)
                    · rw [if_neg hcd] at hf
                      refine lv_iconst (v := 0) hx hb dX13_word_121 (by decide) ?_
                      refine lv_ior hx hb dX13_word_122 ?_
                      refine lv_istore_n (lv' := [(3, .int (L41_x3 ||| 0)), (0, .ref b), (1, .int L25_x1), (2, .int L25_x2), (4, .int L41_x4)]) hx hb dX13_word_123 rfl hl (by decide) rfl (fun ls hl => ?_)
                      refine lv_iinc (v := (L41_x4 + 1)) (lv' := [(4, .int (L41_x4 + 1)), (3, .int (L41_x3 ||| 0)), (0, .ref b), (1, .int L25_x1), (2, .int L25_x2)]) hx hb dX13_word_124 hl (k := 4) rfl rfl (by decide) rfl (fun ls hl => ?_)
                      refine lv_goto (tgt := 41) hx hb dX13_word_127 (by decide) ?_
                      exact ih _ _ _ _ hf _ _ _ hM hp_this hF _ (lv_sub hl [2, 3, 4, 1, 0] rfl) hk
                    · rw [if_pos hcd] at hf
                      refine lv_iconst (v := 1) hx hb dX13_word_117 (by decide) ?_
                      refine lv_goto (tgt := 122) hx hb dX13_word_118 (by decide) ?_
                      refine lv_ior hx hb dX13_word_122 ?_
                      refine lv_istore_n (lv' := [(3, .int (L41_x3 ||| 1)), (0, .ref b), (1, .int L25_x1), (2, .int L25_x2), (4, .int L41_x4)]) hx hb dX13_word_123 rfl hl (by decide) rfl (fun ls hl => ?_)
                      refine lv_iinc (v := (L41_x4 + 1)) (lv' := [(4, .int (L41_x4 + 1)), (3, .int (L41_x3 ||| 1)), (0, .ref b), (1, .int L25_x1), (2, .int L25_x2)]) hx hb dX13_word_124 hl (k := 4) rfl rfl (by decide) rfl (fun ls hl => ?_)
                      refine lv_goto (tgt := 41) hx hb dX13_word_127 (by decide) ?_
                      exact ih _ _ _ _ hf _ _ _ hM hp_this hF _ (lv_sub hl [2, 3, 4, 1, 0] rfl) hk
                  · rw [if_pos hcd] at hf
                    refine lv_iconst (v := 1) hx hb dX13_word_98 (by decide) ?_
                    refine lv_goto (tgt := 103) hx hb dX13_word_99 (by decide) ?_
                    refine lv_iand hx hb dX13_word_103 ?_
                    obtain ⟨hg104, hf⟩ := mm_gd hf
                    refine mm_iast hC hM (hp_this.2.2.2.2.2.2.2.2.2.2.1) hg104 dX13_word_104 (fun w104 H locs hM hm => ?_)
                    have hp_this : At13 G w104 b thrown changes errorAt failedAt isSaved v before saved past far scratch best thenX thenY thenMet text line (upd L41_isLeft L41_x4.toNatClampNeg ((L41_isLeft L41_x4.toNatClampNeg) &&& 1)) words wordAt textN L25_hereP endP lineN L25_isWrong isDoing := ⟨hm.keep (hp_this.1) (by omega), hm.keep (hp_this.2.1) (by omega), hm.keep (hp_this.2.2.1) (by omega), hm.keep (hp_this.2.2.2.1) (by omega), hm.keep (hp_this.2.2.2.2.1) (by omega), hm.keep (hp_this.2.2.2.2.2.1) (by omega), hm.keep (hp_this.2.2.2.2.2.2.1) (by omega), hm.keep (hp_this.2.2.2.2.2.2.2.1) (by omega), hm.keep (hp_this.2.2.2.2.2.2.2.2.1) (by omega), hm.keep (hp_this.2.2.2.2.2.2.2.2.2.1) (by omega), hm.1, hm.keep (hp_this.2.2.2.2.2.2.2.2.2.2.2.1) (by omega), hm.keep (hp_this.2.2.2.2.2.2.2.2.2.2.2.2) (by omega)⟩
                    have hF := hF.tr (hm.fr (by omega) (by omega))
                    refine lv_iload_n hx hb dX13_word_105 rfl (lv_at hl 3 rfl) ?_
                    refine lv_aload_n hx hb dX13_word_106 rfl (lv_at hl 0 rfl) ?_
                    refine mm_get hC hM (k := 17) hp_this.1 rfl inAX13 (by decide) q7_22 rfl dX13_word_107 ?_
                    refine lv_iload hx hb dX13_word_110 (lv_at hl 4 rfl) ?_
                    obtain ⟨hg112, hf⟩ := mm_gd hf
                    refine mm_iald hC hM (hp_this.2.2.2.2.2.2.2.2.2.2.1) hg112 dX13_word_112 ?_
                    refine lv_iconst (v := 1) hx hb dX13_word_113 (by decide) ?_
                    refine lv_icmp_ne (tgt := 121) hx hb dX13_word_114 (by decide) (fun hcd => ?_) (fun hcd => ?_)
                    · rw [if_neg hcd] at hf
                      refine lv_iconst (v := 0) hx hb dX13_word_121 (by decide) ?_
                      refine lv_ior hx hb dX13_word_122 ?_
                      refine lv_istore_n (lv' := [(3, .int (L41_x3 ||| 0)), (0, .ref b), (1, .int L25_x1), (2, .int L25_x2), (4, .int L41_x4)]) hx hb dX13_word_123 rfl hl (by decide) rfl (fun ls hl => ?_)
                      refine lv_iinc (v := (L41_x4 + 1)) (lv' := [(4, .int (L41_x4 + 1)), (3, .int (L41_x3 ||| 0)), (0, .ref b), (1, .int L25_x1), (2, .int L25_x2)]) hx hb dX13_word_124 hl (k := 4) rfl rfl (by decide) rfl (fun ls hl => ?_)
                      refine lv_goto (tgt := 41) hx hb dX13_word_127 (by decide) ?_
                      exact ih _ _ _ _ hf _ _ _ hM hp_this hF _ (lv_sub hl [2, 3, 4, 1, 0] rfl) hk
                    · rw [if_pos hcd] at hf
                      refine lv_iconst (v := 1) hx hb dX13_word_117 (by decide) ?_
                      refine lv_goto (tgt := 122) hx hb dX13_word_118 (by decide) ?_
                      refine lv_ior hx hb dX13_word_122 ?_
                      refine lv_istore_n (lv' := [(3, .int (L41_x3 ||| 1)), (0, .ref b), (1, .int L25_x1), (2, .int L25_x2), (4, .int L41_x4)]) hx hb dX13_word_123 rfl hl (by decide) rfl (fun ls hl => ?_)
                      refine lv_iinc (v := (L41_x4 + 1)) (lv' := [(4, .int (L41_x4 + 1)), (3, .int (L41_x3 ||| 1)), (0, .ref b), (1, .int L25_x1), (2, .int L25_x2)]) hx hb dX13_word_124 hl (k := 4) rfl rfl (by decide) rfl (fun ls hl => ?_)
                      refine lv_goto (tgt := 41) hx hb dX13_word_127 (by decide) ?_
                      exact ih _ _ _ _ hf _ _ _ hM hp_this hF _ (lv_sub hl [2, 3, 4, 1, 0] rfl) hk
          obtain ⟨q41, hq41, hf⟩ := mm_bd hf
          refine L41 K _ _ _ _ hq41 _ _ _ hM hp_this hF _ (lv_sub hl [2, 3, 4, 1, 0] rfl) (fun w41 H locs hM hp_this hF ls hl => ?_)
          refine lv_aload_n hx hb dX13_word_130 rfl (lv_at hl 0 rfl) ?_
          refine lv_iload_n hx hb dX13_word_131 rfl (lv_at hl 3 rfl) ?_
          refine lv_if_ne (tgt := 139) hx hb dX13_word_132 (by decide) (fun hcd => ?_) (fun hcd => ?_)
          · rw [if_neg hcd] at hf
            refine lv_iconst (v := 0) hx hb dX13_word_139 (by decide) ?_
            refine mm_put hC hM (k := 24) tyX13 hp_this.1 rfl inAX13 tyX13_ok nmX13 (by decide) q7_29 rfl rfl rfl (by decide) (Nat.le_of_ble_eq_true rfl) dX13_word_140 (fun w140 H locs hM hm => ?_)
            have hp_this : At13 G w140 b thrown changes errorAt failedAt isSaved v before saved past far scratch best thenX thenY thenMet text line q41.2 words wordAt textN L25_hereP endP lineN 0 isDoing := ⟨hm.1, hm.keep (hp_this.2.1) (by omega), hm.keep (hp_this.2.2.1) (by omega), hm.keep (hp_this.2.2.2.1) (by omega), hm.keep (hp_this.2.2.2.2.1) (by omega), hm.keep (hp_this.2.2.2.2.2.1) (by omega), hm.keep (hp_this.2.2.2.2.2.2.1) (by omega), hm.keep (hp_this.2.2.2.2.2.2.2.1) (by omega), hm.keep (hp_this.2.2.2.2.2.2.2.2.1) (by omega), hm.keep (hp_this.2.2.2.2.2.2.2.2.2.1) (by omega), hm.keep (hp_this.2.2.2.2.2.2.2.2.2.2.1) (by omega), hm.keep (hp_this.2.2.2.2.2.2.2.2.2.2.2.1) (by omega), hm.keep (hp_this.2.2.2.2.2.2.2.2.2.2.2.2) (by omega)⟩
            have hF := hF.tr (hm.fr (by omega) (by omega))
            refine lv_aload_n hx hb dX13_word_143 rfl (lv_at hl 0 rfl) ?_
            refine lv_dup hx hb dX13_word_144 rfl ?_
            refine mm_get hC hM (k := 21) hp_this.1 rfl inAX13 (by decide) q7_26 rfl dX13_word_145 ?_
            refine lv_iload_n hx hb dX13_word_148 rfl (lv_at hl 3 rfl) ?_
            refine lv_if_eq (tgt := 156) hx hb dX13_word_149 (by decide) (fun hcd => ?_) (fun hcd => ?_)
            · rw [if_pos hcd] at hf
              refine lv_iconst (v := 0) hx hb dX13_word_156 (by decide) ?_
              refine lv_iadd hx hb dX13_word_157 ?_
              refine mm_put hC hM (k := 21) tyX13 hp_this.1 rfl inAX13 tyX13_ok nmX13 (by decide) q7_26 rfl rfl rfl rfl (Nat.le_of_ble_eq_true rfl) dX13_word_158 (fun w158 H locs hM hm => ?_)
              have hp_this : At13 G w158 b thrown changes errorAt failedAt isSaved v before saved past far scratch best thenX thenY thenMet text line q41.2 words wordAt textN (L25_hereP + 0) endP lineN 0 isDoing := ⟨hm.1, hm.keep (hp_this.2.1) (by omega), hm.keep (hp_this.2.2.1) (by omega), hm.keep (hp_this.2.2.2.1) (by omega), hm.keep (hp_this.2.2.2.2.1) (by omega), hm.keep (hp_this.2.2.2.2.2.1) (by omega), hm.keep (hp_this.2.2.2.2.2.2.1) (by omega), hm.keep (hp_this.2.2.2.2.2.2.2.1) (by omega), hm.keep (hp_this.2.2.2.2.2.2.2.2.1) (by omega), hm.keep (hp_this.2.2.2.2.2.2.2.2.2.1) (by omega), hm.keep (hp_this.2.2.2.2.2.2.2.2.2.2.1) (by omega), hm.keep (hp_this.2.2.2.2.2.2.2.2.2.2.2.1) (by omega), hm.keep (hp_this.2.2.2.2.2.2.2.2.2.2.2.2) (by omega)⟩
              have hF := hF.tr (hm.fr (by omega) (by omega))
              refine lv_iinc (v := (L25_x1 + 1)) (lv' := [(1, .int (L25_x1 + 1)), (0, .ref b), (2, .int L25_x2), (3, .int q41.1)]) hx hb dX13_word_161 hl (k := 1) rfl rfl (by decide) rfl (fun ls hl => ?_)
              refine lv_iconst (v := 0) hx hb dX13_word_164 (by decide) ?_
              refine lv_istore (lv' := [(4, .int 0), (1, .int (L25_x1 + 1)), (0, .ref b), (2, .int L25_x2), (3, .int q41.1)]) hx hb dX13_word_165 hl (by decide) rfl (fun ls hl => ?_)
              have L167 : ∀ (n : Nat) (L167_x2 : Int32) (L167_x4 : Int32) (X : Int32), f_X13_word_L167 q41.2 wordAt (L25_x1 + 1) n L167_x2 L167_x4 = some X → ∀ (H : Heap) (locs : List Loc), mm_S G A s.heap w158 H locs → ∀ (ls : Array Slot), lv_has ls 5 [(0, .ref b), (1, .int (L25_x1 + 1)), (2, .int L167_x2), (4, .int L167_x4)] → (∀ (H : Heap) (locs : List Loc), mm_S G A s.heap w158 H locs → ∀ (ls : Array Slot), lv_has ls 5 [(0, .ref b), (1, .int (L25_x1 + 1)), (2, .int X)] → W p l e ({ frames := 1, cells := 0, slots := 0, locals := 20 } : Room) s m args below meth c H locs 0 0 Q (F0 m 219 ls [])) → W p l e ({ frames := 1, cells := 0, slots := 0, locals := 20 } : Room) s m args below meth c H locs 0 0 Q (F0 m 167 ls []) := by
                intro n
                induction n with
                | zero => intro L167_x2 L167_x4 X hf; cases hf
                | succ n ih =>
                  intro L167_x2 L167_x4 X hf H locs hM ls hl hk
                  rw [f_X13_word_L167] at hf
                  refine lv_iload hx hb dX13_word_167 (lv_at hl 3 rfl) ?_
                  refine lv_bipush (v := 11) hx hb dX13_word_169 (by decide) ?_
                  refine lv_icmp_ge (tgt := 219) hx hb dX13_word_171 (by decide) (fun hcd => ?_) (fun hcd => ?_)
                  · rw [if_pos hcd] at hf
                    cases hf
                    exact hk _ _ hM _ (lv_sub hl [0, 1, 2] rfl)
                  · rw [if_neg hcd] at hf
                    refine lv_aload_n hx hb dX13_word_174 rfl (lv_at hl 0 rfl) ?_
                    refine mm_get hC hM (k := 17) hp_this.1 rfl inAX13 (by decide) q7_22 rfl dX13_word_175 ?_
                    refine lv_iload hx hb dX13_word_178 (lv_at hl 3 rfl) ?_
                    obtain ⟨hg180, hf⟩ := mm_gd hf
                    refine mm_iald hC hM (hp_this.2.2.2.2.2.2.2.2.2.2.1) hg180 dX13_word_180 ?_
                    refine lv_iconst (v := 1) hx hb dX13_word_181 (by decide) ?_
                    refine lv_icmp_ne (tgt := 211) hx hb dX13_word_182 (by decide) (fun hcd => ?_) (fun hcd => ?_)
                    · rw [if_neg hcd] at hf
                      refine lv_iload_n hx hb dX13_word_211 rfl (lv_at hl 2 rfl) ?_
                      refine lv_istore_n (lv' := [(2, .int L167_x2), (0, .ref b), (1, .int (L25_x1 + 1)), (4, .int L167_x4)]) hx hb dX13_word_212 rfl hl (by decide) rfl (fun ls hl => ?_)
                      refine lv_iinc (v := (L167_x4 + 1)) (lv' := [(4, .int (L167_x4 + 1)), (2, .int L167_x2), (0, .ref b), (1, .int (L25_x1 + 1))]) hx hb dX13_word_213 hl (k := 3) rfl rfl (by decide) rfl (fun ls hl => ?_)
                      refine lv_goto (tgt := 167) hx hb dX13_word_216 (by decide) ?_
                      exact ih _ _ _ hf _ _ hM _ (lv_sub hl [2, 3, 1, 0] rfl) hk
                    · rw [if_pos hcd] at hf
                      refine lv_aload_n hx hb dX13_word_185 rfl (lv_at hl 0 rfl) ?_
                      refine mm_get hC hM (k := 19) hp_this.1 rfl inAX13 (by decide) q7_24 rfl dX13_word_186 ?_
                      refine lv_iload hx hb dX13_word_189 (lv_at hl 3 rfl) ?_
                      obtain ⟨hg191, hf⟩ := mm_gd hf
                      refine mm_iald hC hM (hp_this.2.2.2.2.2.2.2.2.2.2.2.2) hg191 dX13_word_191 ?_
                      refine lv_iload_n hx hb dX13_word_192 rfl (lv_at hl 1 rfl) ?_
                      refine lv_iadd hx hb dX13_word_193 ?_
                      refine lv_aload_n hx hb dX13_word_194 rfl (lv_at hl 0 rfl) ?_
                      refine mm_get hC hM (k := 19) hp_this.1 rfl inAX13 (by decide) q7_24 rfl dX13_word_195 ?_
                      refine lv_iload hx hb dX13_word_198 (lv_at hl 3 rfl) ?_
                      refine lv_iconst (v := 1) hx hb dX13_word_200 (by decide) ?_
                      refine lv_iadd hx hb dX13_word_201 ?_
                      obtain ⟨hg202, hf⟩ := mm_gd hf
                      refine mm_iald hC hM (hp_this.2.2.2.2.2.2.2.2.2.2.2.2) hg202 dX13_word_202 ?_
                      refine lv_icmp_ne (tgt := 211) hx hb dX13_word_203 (by decide) (fun hcd => ?_) (fun hcd => ?_)
                      · rw [if_neg hcd] at hf
                        refine lv_iload_n hx hb dX13_word_211 rfl (lv_at hl 2 rfl) ?_
                        refine lv_istore_n (lv' := [(2, .int L167_x2), (0, .ref b), (1, .int (L25_x1 + 1)), (4, .int L167_x4)]) hx hb dX13_word_212 rfl hl (by decide) rfl (fun ls hl => ?_)
                        refine lv_iinc (v := (L167_x4 + 1)) (lv' := [(4, .int (L167_x4 + 1)), (2, .int L167_x2), (0, .ref b), (1, .int (L25_x1 + 1))]) hx hb dX13_word_213 hl (k := 3) rfl rfl (by decide) rfl (fun ls hl => ?_)
                        refine lv_goto (tgt := 167) hx hb dX13_word_216 (by decide) ?_
                        exact ih _ _ _ hf _ _ hM _ (lv_sub hl [2, 3, 1, 0] rfl) hk
                      · rw [if_pos hcd] at hf
                        refine lv_iload hx hb dX13_word_206 (lv_at hl 3 rfl) ?_
                        refine lv_goto (tgt := 212) hx hb dX13_word_208 (by decide) ?_
                        refine lv_istore_n (lv' := [(2, .int L167_x4), (0, .ref b), (1, .int (L25_x1 + 1)), (4, .int L167_x4)]) hx hb dX13_word_212 rfl hl (by decide) rfl (fun ls hl => ?_)
                        refine lv_iinc (v := (L167_x4 + 1)) (lv' := [(4, .int (L167_x4 + 1)), (2, .int L167_x4), (0, .ref b), (1, .int (L25_x1 + 1))]) hx hb dX13_word_213 hl (k := 3) rfl rfl (by decide) rfl (fun ls hl => ?_)
                        refine lv_goto (tgt := 167) hx hb dX13_word_216 (by decide) ?_
                        exact ih _ _ _ hf _ _ hM _ (lv_sub hl [2, 3, 1, 0] rfl) hk
              obtain ⟨q167, hq167, hf⟩ := mm_bd hf
              refine L167 K _ _ _ hq167 _ _ hM _ (lv_sub hl [2, 1, 3, 0] rfl) (fun H locs hM ls hl => ?_)
              refine lv_goto (tgt := 25) hx hb dX13_word_219 (by decide) ?_
              exact ih _ _ _ _ _ _ hf _ _ _ hM hp_this hF _ (lv_sub hl [0, 1, 2] rfl) hk
            · rw [if_neg hcd] at hf
              refine lv_iconst (v := 1) hx hb dX13_word_152 (by decide) ?_
              refine lv_goto (tgt := 157) hx hb dX13_word_153 (by decide) ?_
              refine lv_iadd hx hb dX13_word_157 ?_
              refine mm_put hC hM (k := 21) tyX13 hp_this.1 rfl inAX13 tyX13_ok nmX13 (by decide) q7_26 rfl rfl rfl rfl (Nat.le_of_ble_eq_true rfl) dX13_word_158 (fun w158 H locs hM hm => ?_)
              have hp_this : At13 G w158 b thrown changes errorAt failedAt isSaved v before saved past far scratch best thenX thenY thenMet text line q41.2 words wordAt textN (L25_hereP + 1) endP lineN 0 isDoing := ⟨hm.1, hm.keep (hp_this.2.1) (by omega), hm.keep (hp_this.2.2.1) (by omega), hm.keep (hp_this.2.2.2.1) (by omega), hm.keep (hp_this.2.2.2.2.1) (by omega), hm.keep (hp_this.2.2.2.2.2.1) (by omega), hm.keep (hp_this.2.2.2.2.2.2.1) (by omega), hm.keep (hp_this.2.2.2.2.2.2.2.1) (by omega), hm.keep (hp_this.2.2.2.2.2.2.2.2.1) (by omega), hm.keep (hp_this.2.2.2.2.2.2.2.2.2.1) (by omega), hm.keep (hp_this.2.2.2.2.2.2.2.2.2.2.1) (by omega), hm.keep (hp_this.2.2.2.2.2.2.2.2.2.2.2.1) (by omega), hm.keep (hp_this.2.2.2.2.2.2.2.2.2.2.2.2) (by omega)⟩
              have hF := hF.tr (hm.fr (by omega) (by omega))
              refine lv_iinc (v := (L25_x1 + 1)) (lv' := [(1, .int (L25_x1 + 1)), (0, .ref b), (2, .int L25_x2), (3, .int q41.1)]) hx hb dX13_word_161 hl (k := 1) rfl rfl (by decide) rfl (fun ls hl => ?_)
              refine lv_iconst (v := 0) hx hb dX13_word_164 (by decide) ?_
              refine lv_istore (lv' := [(4, .int 0), (1, .int (L25_x1 + 1)), (0, .ref b), (2, .int L25_x2), (3, .int q41.1)]) hx hb dX13_word_165 hl (by decide) rfl (fun ls hl => ?_)
              have L167 : ∀ (n : Nat) (L167_x2 : Int32) (L167_x4 : Int32) (X : Int32), f_X13_word_L167 q41.2 wordAt (L25_x1 + 1) n L167_x2 L167_x4 = some X → ∀ (H : Heap) (locs : List Loc), mm_S G A s.heap w158 H locs → ∀ (ls : Array Slot), lv_has ls 5 [(0, .ref b), (1, .int (L25_x1 + 1)), (2, .int L167_x2), (4, .int L167_x4)] → (∀ (H : Heap) (locs : List Loc), mm_S G A s.heap w158 H locs → ∀ (ls : Array Slot), lv_has ls 5 [(0, .ref b), (1, .int (L25_x1 + 1)), (2, .int X)] → W p l e ({ frames := 1, cells := 0, slots := 0, locals := 20 } : Room) s m args below meth c H locs 0 0 Q (F0 m 219 ls [])) → W p l e ({ frames := 1, cells := 0, slots := 0, locals := 20 } : Room) s m args below meth c H locs 0 0 Q (F0 m 167 ls []) := by
                intro n
                induction n with
                | zero => intro L167_x2 L167_x4 X hf; cases hf
                | succ n ih =>
                  intro L167_x2 L167_x4 X hf H locs hM ls hl hk
                  rw [f_X13_word_L167] at hf
                  refine lv_iload hx hb dX13_word_167 (lv_at hl 3 rfl) ?_
                  refine lv_bipush (v := 11) hx hb dX13_word_169 (by decide) ?_
                  refine lv_icmp_ge (tgt := 219) hx hb dX13_word_171 (by decide) (fun hcd => ?_) (fun hcd => ?_)
                  · rw [if_pos hcd] at hf
                    cases hf
                    exact hk _ _ hM _ (lv_sub hl [0, 1, 2] rfl)
                  · rw [if_neg hcd] at hf
                    refine lv_aload_n hx hb dX13_word_174 rfl (lv_at hl 0 rfl) ?_
                    refine mm_get hC hM (k := 17) hp_this.1 rfl inAX13 (by decide) q7_22 rfl dX13_word_175 ?_
                    refine lv_iload hx hb dX13_word_178 (lv_at hl 3 rfl) ?_
                    obtain ⟨hg180, hf⟩ := mm_gd hf
                    refine mm_iald hC hM (hp_this.2.2.2.2.2.2.2.2.2.2.1) hg180 dX13_word_180 ?_
                    refine lv_iconst (v := 1) hx hb dX13_word_181 (by decide) ?_
                    refine lv_icmp_ne (tgt := 211) hx hb dX13_word_182 (by decide) (fun hcd => ?_) (fun hcd => ?_)
                    · rw [if_neg hcd] at hf
                      refine lv_iload_n hx hb dX13_word_211 rfl (lv_at hl 2 rfl) ?_
                      refine lv_istore_n (lv' := [(2, .int L167_x2), (0, .ref b), (1, .int (L25_x1 + 1)), (4, .int L167_x4)]) hx hb dX13_word_212 rfl hl (by decide) rfl (fun ls hl => ?_)
                      refine lv_iinc (v := (L167_x4 + 1)) (lv' := [(4, .int (L167_x4 + 1)), (2, .int L167_x2), (0, .ref b), (1, .int (L25_x1 + 1))]) hx hb dX13_word_213 hl (k := 3) rfl rfl (by decide) rfl (fun ls hl => ?_)
                      refine lv_goto (tgt := 167) hx hb dX13_word_216 (by decide) ?_
                      exact ih _ _ _ hf _ _ hM _ (lv_sub hl [2, 3, 1, 0] rfl) hk
                    · rw [if_pos hcd] at hf
                      refine lv_aload_n hx hb dX13_word_185 rfl (lv_at hl 0 rfl) ?_
                      refine mm_get hC hM (k := 19) hp_this.1 rfl inAX13 (by decide) q7_24 rfl dX13_word_186 ?_
                      refine lv_iload hx hb dX13_word_189 (lv_at hl 3 rfl) ?_
                      obtain ⟨hg191, hf⟩ := mm_gd hf
                      refine mm_iald hC hM (hp_this.2.2.2.2.2.2.2.2.2.2.2.2) hg191 dX13_word_191 ?_
                      refine lv_iload_n hx hb dX13_word_192 rfl (lv_at hl 1 rfl) ?_
                      refine lv_iadd hx hb dX13_word_193 ?_
                      refine lv_aload_n hx hb dX13_word_194 rfl (lv_at hl 0 rfl) ?_
                      refine mm_get hC hM (k := 19) hp_this.1 rfl inAX13 (by decide) q7_24 rfl dX13_word_195 ?_
                      refine lv_iload hx hb dX13_word_198 (lv_at hl 3 rfl) ?_
                      refine lv_iconst (v := 1) hx hb dX13_word_200 (by decide) ?_
                      refine lv_iadd hx hb dX13_word_201 ?_
                      obtain ⟨hg202, hf⟩ := mm_gd hf
                      refine mm_iald hC hM (hp_this.2.2.2.2.2.2.2.2.2.2.2.2) hg202 dX13_word_202 ?_
                      refine lv_icmp_ne (tgt := 211) hx hb dX13_word_203 (by decide) (fun hcd => ?_) (fun hcd => ?_)
                      · rw [if_neg hcd] at hf
                        refine lv_iload_n hx hb dX13_word_211 rfl (lv_at hl 2 rfl) ?_
                        refine lv_istore_n (lv' := [(2, .int L167_x2), (0, .ref b), (1, .int (L25_x1 + 1)), (4, .int L167_x4)]) hx hb dX13_word_212 rfl hl (by decide) rfl (fun ls hl => ?_)
                        refine lv_iinc (v := (L167_x4 + 1)) (lv' := [(4, .int (L167_x4 + 1)), (2, .int L167_x2), (0, .ref b), (1, .int (L25_x1 + 1))]) hx hb dX13_word_213 hl (k := 3) rfl rfl (by decide) rfl (fun ls hl => ?_)
                        refine lv_goto (tgt := 167) hx hb dX13_word_216 (by decide) ?_
                        exact ih _ _ _ hf _ _ hM _ (lv_sub hl [2, 3, 1, 0] rfl) hk
                      · rw [if_pos hcd] at hf
                        refine lv_iload hx hb dX13_word_206 (lv_at hl 3 rfl) ?_
                        refine lv_goto (tgt := 212) hx hb dX13_word_208 (by decide) ?_
                        refine lv_istore_n (lv' := [(2, .int L167_x4), (0, .ref b), (1, .int (L25_x1 + 1)), (4, .int L167_x4)]) hx hb dX13_word_212 rfl hl (by decide) rfl (fun ls hl => ?_)
                        refine lv_iinc (v := (L167_x4 + 1)) (lv' := [(4, .int (L167_x4 + 1)), (2, .int L167_x4), (0, .ref b), (1, .int (L25_x1 + 1))]) hx hb dX13_word_213 hl (k := 3) rfl rfl (by decide) rfl (fun ls hl => ?_)
                        refine lv_goto (tgt := 167) hx hb dX13_word_216 (by decide) ?_
                        exact ih _ _ _ hf _ _ hM _ (lv_sub hl [2, 3, 1, 0] rfl) hk
              obtain ⟨q167, hq167, hf⟩ := mm_bd hf
              refine L167 K _ _ _ hq167 _ _ hM _ (lv_sub hl [2, 1, 3, 0] rfl) (fun H locs hM ls hl => ?_)
              refine lv_goto (tgt := 25) hx hb dX13_word_219 (by decide) ?_
              exact ih _ _ _ _ _ _ hf _ _ _ hM hp_this hF _ (lv_sub hl [0, 1, 2] rfl) hk
          · rw [if_pos hcd] at hf
            refine lv_iconst (v := 1) hx hb dX13_word_135 (by decide) ?_
            refine lv_goto (tgt := 140) hx hb dX13_word_136 (by decide) ?_
            refine mm_put hC hM (k := 24) tyX13 hp_this.1 rfl inAX13 tyX13_ok nmX13 (by decide) q7_29 rfl rfl rfl (by decide) (Nat.le_of_ble_eq_true rfl) dX13_word_140 (fun w140 H locs hM hm => ?_)
            have hp_this : At13 G w140 b thrown changes errorAt failedAt isSaved v before saved past far scratch best thenX thenY thenMet text line q41.2 words wordAt textN L25_hereP endP lineN 1 isDoing := ⟨hm.1, hm.keep (hp_this.2.1) (by omega), hm.keep (hp_this.2.2.1) (by omega), hm.keep (hp_this.2.2.2.1) (by omega), hm.keep (hp_this.2.2.2.2.1) (by omega), hm.keep (hp_this.2.2.2.2.2.1) (by omega), hm.keep (hp_this.2.2.2.2.2.2.1) (by omega), hm.keep (hp_this.2.2.2.2.2.2.2.1) (by omega), hm.keep (hp_this.2.2.2.2.2.2.2.2.1) (by omega), hm.keep (hp_this.2.2.2.2.2.2.2.2.2.1) (by omega), hm.keep (hp_this.2.2.2.2.2.2.2.2.2.2.1) (by omega), hm.keep (hp_this.2.2.2.2.2.2.2.2.2.2.2.1) (by omega), hm.keep (hp_this.2.2.2.2.2.2.2.2.2.2.2.2) (by omega)⟩
            have hF := hF.tr (hm.fr (by omega) (by omega))
            refine lv_aload_n hx hb dX13_word_143 rfl (lv_at hl 0 rfl) ?_
            refine lv_dup hx hb dX13_word_144 rfl ?_
            refine mm_get hC hM (k := 21) hp_this.1 rfl inAX13 (by decide) q7_26 rfl dX13_word_145 ?_
            refine lv_iload_n hx hb dX13_word_148 rfl (lv_at hl 3 rfl) ?_
            refine lv_if_eq (tgt := 156) hx hb dX13_word_149 (by decide) (fun hcd => ?_) (fun hcd => ?_)
            · rw [if_pos hcd] at hf
              refine lv_iconst (v := 0) hx hb dX13_word_156 (by decide) ?_
              refine lv_iadd hx hb dX13_word_157 ?_
              refine mm_put hC hM (k := 21) tyX13 hp_this.1 rfl inAX13 tyX13_ok nmX13 (by decide) q7_26 rfl rfl rfl rfl (Nat.le_of_ble_eq_true rfl) dX13_word_158 (fun w158 H locs hM hm => ?_)
              have hp_this : At13 G w158 b thrown changes errorAt failedAt isSaved v before saved past far scratch best thenX thenY thenMet text line q41.2 words wordAt textN (L25_hereP + 0) endP lineN 1 isDoing := ⟨hm.1, hm.keep (hp_this.2.1) (by omega), hm.keep (hp_this.2.2.1) (by omega), hm.keep (hp_this.2.2.2.1) (by omega), hm.keep (hp_this.2.2.2.2.1) (by omega), hm.keep (hp_this.2.2.2.2.2.1) (by omega), hm.keep (hp_this.2.2.2.2.2.2.1) (by omega), hm.keep (hp_this.2.2.2.2.2.2.2.1) (by omega), hm.keep (hp_this.2.2.2.2.2.2.2.2.1) (by omega), hm.keep (hp_this.2.2.2.2.2.2.2.2.2.1) (by omega), hm.keep (hp_this.2.2.2.2.2.2.2.2.2.2.1) (by omega), hm.keep (hp_this.2.2.2.2.2.2.2.2.2.2.2.1) (by omega), hm.keep (hp_this.2.2.2.2.2.2.2.2.2.2.2.2) (by omega)⟩
              have hF := hF.tr (hm.fr (by omega) (by omega))
              refine lv_iinc (v := (L25_x1 + 1)) (lv' := [(1, .int (L25_x1 + 1)), (0, .ref b), (2, .int L25_x2), (3, .int q41.1)]) hx hb dX13_word_161 hl (k := 1) rfl rfl (by decide) rfl (fun ls hl => ?_)
              refine lv_iconst (v := 0) hx hb dX13_word_164 (by decide) ?_
              refine lv_istore (lv' := [(4, .int 0), (1, .int (L25_x1 + 1)), (0, .ref b), (2, .int L25_x2), (3, .int q41.1)]) hx hb dX13_word_165 hl (by decide) rfl (fun ls hl => ?_)
              have L167 : ∀ (n : Nat) (L167_x2 : Int32) (L167_x4 : Int32) (X : Int32), f_X13_word_L167 q41.2 wordAt (L25_x1 + 1) n L167_x2 L167_x4 = some X → ∀ (H : Heap) (locs : List Loc), mm_S G A s.heap w158 H locs → ∀ (ls : Array Slot), lv_has ls 5 [(0, .ref b), (1, .int (L25_x1 + 1)), (2, .int L167_x2), (4, .int L167_x4)] → (∀ (H : Heap) (locs : List Loc), mm_S G A s.heap w158 H locs → ∀ (ls : Array Slot), lv_has ls 5 [(0, .ref b), (1, .int (L25_x1 + 1)), (2, .int X)] → W p l e ({ frames := 1, cells := 0, slots := 0, locals := 20 } : Room) s m args below meth c H locs 0 0 Q (F0 m 219 ls [])) → W p l e ({ frames := 1, cells := 0, slots := 0, locals := 20 } : Room) s m args below meth c H locs 0 0 Q (F0 m 167 ls []) := by
                intro n
                induction n with
                | zero => intro L167_x2 L167_x4 X hf; cases hf
                | succ n ih =>
                  intro L167_x2 L167_x4 X hf H locs hM ls hl hk
                  rw [f_X13_word_L167] at hf
                  refine lv_iload hx hb dX13_word_167 (lv_at hl 3 rfl) ?_
                  refine lv_bipush (v := 11) hx hb dX13_word_169 (by decide) ?_
                  refine lv_icmp_ge (tgt := 219) hx hb dX13_word_171 (by decide) (fun hcd => ?_) (fun hcd => ?_)
                  · rw [if_pos hcd] at hf
                    cases hf
                    exact hk _ _ hM _ (lv_sub hl [0, 1, 2] rfl)
                  · rw [if_neg hcd] at hf
                    refine lv_aload_n hx hb dX13_word_174 rfl (lv_at hl 0 rfl) ?_
                    refine mm_get hC hM (k := 17) hp_this.1 rfl inAX13 (by decide) q7_22 rfl dX13_word_175 ?_
                    refine lv_iload hx hb dX13_word_178 (lv_at hl 3 rfl) ?_
                    obtain ⟨hg180, hf⟩ := mm_gd hf
                    refine mm_iald hC hM (hp_this.2.2.2.2.2.2.2.2.2.2.1) hg180 dX13_word_180 ?_
                    refine lv_iconst (v := 1) hx hb dX13_word_181 (by decide) ?_
                    refine lv_icmp_ne (tgt := 211) hx hb dX13_word_182 (by decide) (fun hcd => ?_) (fun hcd => ?_)
                    · rw [if_neg hcd] at hf
                      refine lv_iload_n hx hb dX13_word_211 rfl (lv_at hl 2 rfl) ?_
                      refine lv_istore_n (lv' := [(2, .int L167_x2), (0, .ref b), (1, .int (L25_x1 + 1)), (4, .int L167_x4)]) hx hb dX13_word_212 rfl hl (by decide) rfl (fun ls hl => ?_)
                      refine lv_iinc (v := (L167_x4 + 1)) (lv' := [(4, .int (L167_x4 + 1)), (2, .int L167_x2), (0, .ref b), (1, .int (L25_x1 + 1))]) hx hb dX13_word_213 hl (k := 3) rfl rfl (by decide) rfl (fun ls hl => ?_)
                      refine lv_goto (tgt := 167) hx hb dX13_word_216 (by decide) ?_
                      exact ih _ _ _ hf _ _ hM _ (lv_sub hl [2, 3, 1, 0] rfl) hk
                    · rw [if_pos hcd] at hf
                      refine lv_aload_n hx hb dX13_word_185 rfl (lv_at hl 0 rfl) ?_
                      refine mm_get hC hM (k := 19) hp_this.1 rfl inAX13 (by decide) q7_24 rfl dX13_word_186 ?_
                      refine lv_iload hx hb dX13_word_189 (lv_at hl 3 rfl) ?_
                      obtain ⟨hg191, hf⟩ := mm_gd hf
                      refine mm_iald hC hM (hp_this.2.2.2.2.2.2.2.2.2.2.2.2) hg191 dX13_word_191 ?_
                      refine lv_iload_n hx hb dX13_word_192 rfl (lv_at hl 1 rfl) ?_
                      refine lv_iadd hx hb dX13_word_193 ?_
                      refine lv_aload_n hx hb dX13_word_194 rfl (lv_at hl 0 rfl) ?_
                      refine mm_get hC hM (k := 19) hp_this.1 rfl inAX13 (by decide) q7_24 rfl dX13_word_195 ?_
                      refine lv_iload hx hb dX13_word_198 (lv_at hl 3 rfl) ?_
                      refine lv_iconst (v := 1) hx hb dX13_word_200 (by decide) ?_
                      refine lv_iadd hx hb dX13_word_201 ?_
                      obtain ⟨hg202, hf⟩ := mm_gd hf
                      refine mm_iald hC hM (hp_this.2.2.2.2.2.2.2.2.2.2.2.2) hg202 dX13_word_202 ?_
                      refine lv_icmp_ne (tgt := 211) hx hb dX13_word_203 (by decide) (fun hcd => ?_) (fun hcd => ?_)
                      · rw [if_neg hcd] at hf
                        refine lv_iload_n hx hb dX13_word_211 rfl (lv_at hl 2 rfl) ?_
                        refine lv_istore_n (lv' := [(2, .int L167_x2), (0, .ref b), (1, .int (L25_x1 + 1)), (4, .int L167_x4)]) hx hb dX13_word_212 rfl hl (by decide) rfl (fun ls hl => ?_)
                        refine lv_iinc (v := (L167_x4 + 1)) (lv' := [(4, .int (L167_x4 + 1)), (2, .int L167_x2), (0, .ref b), (1, .int (L25_x1 + 1))]) hx hb dX13_word_213 hl (k := 3) rfl rfl (by decide) rfl (fun ls hl => ?_)
                        refine lv_goto (tgt := 167) hx hb dX13_word_216 (by decide) ?_
                        exact ih _ _ _ hf _ _ hM _ (lv_sub hl [2, 3, 1, 0] rfl) hk
                      · rw [if_pos hcd] at hf
                        refine lv_iload hx hb dX13_word_206 (lv_at hl 3 rfl) ?_
                        refine lv_goto (tgt := 212) hx hb dX13_word_208 (by decide) ?_
                        refine lv_istore_n (lv' := [(2, .int L167_x4), (0, .ref b), (1, .int (L25_x1 + 1)), (4, .int L167_x4)]) hx hb dX13_word_212 rfl hl (by decide) rfl (fun ls hl => ?_)
                        refine lv_iinc (v := (L167_x4 + 1)) (lv' := [(4, .int (L167_x4 + 1)), (2, .int L167_x4), (0, .ref b), (1, .int (L25_x1 + 1))]) hx hb dX13_word_213 hl (k := 3) rfl rfl (by decide) rfl (fun ls hl => ?_)
                        refine lv_goto (tgt := 167) hx hb dX13_word_216 (by decide) ?_
                        exact ih _ _ _ hf _ _ hM _ (lv_sub hl [2, 3, 1, 0] rfl) hk
              obtain ⟨q167, hq167, hf⟩ := mm_bd hf
              refine L167 K _ _ _ hq167 _ _ hM _ (lv_sub hl [2, 1, 3, 0] rfl) (fun H locs hM ls hl => ?_)
              refine lv_goto (tgt := 25) hx hb dX13_word_219 (by decide) ?_
              exact ih _ _ _ _ _ _ hf _ _ _ hM hp_this hF _ (lv_sub hl [0, 1, 2] rfl) hk
            · rw [if_neg hcd] at hf
              refine lv_iconst (v := 1) hx hb dX13_word_152 (by decide) ?_
              refine lv_goto (tgt := 157) hx hb dX13_word_153 (by decide) ?_
              refine lv_iadd hx hb dX13_word_157 ?_
              refine mm_put hC hM (k := 21) tyX13 hp_this.1 rfl inAX13 tyX13_ok nmX13 (by decide) q7_26 rfl rfl rfl rfl (Nat.le_of_ble_eq_true rfl) dX13_word_158 (fun w158 H locs hM hm => ?_)
              have hp_this : At13 G w158 b thrown changes errorAt failedAt isSaved v before saved past far scratch best thenX thenY thenMet text line q41.2 words wordAt textN (L25_hereP + 1) endP lineN 1 isDoing := ⟨hm.1, hm.keep (hp_this.2.1) (by omega), hm.keep (hp_this.2.2.1) (by omega), hm.keep (hp_this.2.2.2.1) (by omega), hm.keep (hp_this.2.2.2.2.1) (by omega), hm.keep (hp_this.2.2.2.2.2.1) (by omega), hm.keep (hp_this.2.2.2.2.2.2.1) (by omega), hm.keep (hp_this.2.2.2.2.2.2.2.1) (by omega), hm.keep (hp_this.2.2.2.2.2.2.2.2.1) (by omega), hm.keep (hp_this.2.2.2.2.2.2.2.2.2.1) (by omega), hm.keep (hp_this.2.2.2.2.2.2.2.2.2.2.1) (by omega), hm.keep (hp_this.2.2.2.2.2.2.2.2.2.2.2.1) (by omega), hm.keep (hp_this.2.2.2.2.2.2.2.2.2.2.2.2) (by omega)⟩
              have hF := hF.tr (hm.fr (by omega) (by omega))
              refine lv_iinc (v := (L25_x1 + 1)) (lv' := [(1, .int (L25_x1 + 1)), (0, .ref b), (2, .int L25_x2), (3, .int q41.1)]) hx hb dX13_word_161 hl (k := 1) rfl rfl (by decide) rfl (fun ls hl => ?_)
              refine lv_iconst (v := 0) hx hb dX13_word_164 (by decide) ?_
              refine lv_istore (lv' := [(4, .int 0), (1, .int (L25_x1 + 1)), (0, .ref b), (2, .int L25_x2), (3, .int q41.1)]) hx hb dX13_word_165 hl (by decide) rfl (fun ls hl => ?_)
              have L167 : ∀ (n : Nat) (L167_x2 : Int32) (L167_x4 : Int32) (X : Int32), f_X13_word_L167 q41.2 wordAt (L25_x1 + 1) n L167_x2 L167_x4 = some X → ∀ (H : Heap) (locs : List Loc), mm_S G A s.heap w158 H locs → ∀ (ls : Array Slot), lv_has ls 5 [(0, .ref b), (1, .int (L25_x1 + 1)), (2, .int L167_x2), (4, .int L167_x4)] → (∀ (H : Heap) (locs : List Loc), mm_S G A s.heap w158 H locs → ∀ (ls : Array Slot), lv_has ls 5 [(0, .ref b), (1, .int (L25_x1 + 1)), (2, .int X)] → W p l e ({ frames := 1, cells := 0, slots := 0, locals := 20 } : Room) s m args below meth c H locs 0 0 Q (F0 m 219 ls [])) → W p l e ({ frames := 1, cells := 0, slots := 0, locals := 20 } : Room) s m args below meth c H locs 0 0 Q (F0 m 167 ls []) := by
                intro n
                induction n with
                | zero => intro L167_x2 L167_x4 X hf; cases hf
                | succ n ih =>
                  intro L167_x2 L167_x4 X hf H locs hM ls hl hk
                  rw [f_X13_word_L167] at hf
                  refine lv_iload hx hb dX13_word_167 (lv_at hl 3 rfl) ?_
                  refine lv_bipush (v := 11) hx hb dX13_word_169 (by decide) ?_
                  refine lv_icmp_ge (tgt := 219) hx hb dX13_word_171 (by decide) (fun hcd => ?_) (fun hcd => ?_)
                  · rw [if_pos hcd] at hf
                    cases hf
                    exact hk _ _ hM _ (lv_sub hl [0, 1, 2] rfl)
                  · rw [if_neg hcd] at hf
                    refine lv_aload_n hx hb dX13_word_174 rfl (lv_at hl 0 rfl) ?_
                    refine mm_get hC hM (k := 17) hp_this.1 rfl inAX13 (by decide) q7_22 rfl dX13_word_175 ?_
                    refine lv_iload hx hb dX13_word_178 (lv_at hl 3 rfl) ?_
                    obtain ⟨hg180, hf⟩ := mm_gd hf
                    refine mm_iald hC hM (hp_this.2.2.2.2.2.2.2.2.2.2.1) hg180 dX13_word_180 ?_
                    refine lv_iconst (v := 1) hx hb dX13_word_181 (by decide) ?_
                    refine lv_icmp_ne (tgt := 211) hx hb dX13_word_182 (by decide) (fun hcd => ?_) (fun hcd => ?_)
                    · rw [if_neg hcd] at hf
                      refine lv_iload_n hx hb dX13_word_211 rfl (lv_at hl 2 rfl) ?_
                      refine lv_istore_n (lv' := [(2, .int L167_x2), (0, .ref b), (1, .int (L25_x1 + 1)), (4, .int L167_x4)]) hx hb dX13_word_212 rfl hl (by decide) rfl (fun ls hl => ?_)
                      refine lv_iinc (v := (L167_x4 + 1)) (lv' := [(4, .int (L167_x4 + 1)), (2, .int L167_x2), (0, .ref b), (1, .int (L25_x1 + 1))]) hx hb dX13_word_213 hl (k := 3) rfl rfl (by decide) rfl (fun ls hl => ?_)
                      refine lv_goto (tgt := 167) hx hb dX13_word_216 (by decide) ?_
                      exact ih _ _ _ hf _ _ hM _ (lv_sub hl [2, 3, 1, 0] rfl) hk
                    · rw [if_pos hcd] at hf
                      refine lv_aload_n hx hb dX13_word_185 rfl (lv_at hl 0 rfl) ?_
                      refine mm_get hC hM (k := 19) hp_this.1 rfl inAX13 (by decide) q7_24 rfl dX13_word_186 ?_
                      refine lv_iload hx hb dX13_word_189 (lv_at hl 3 rfl) ?_
                      obtain ⟨hg191, hf⟩ := mm_gd hf
                      refine mm_iald hC hM (hp_this.2.2.2.2.2.2.2.2.2.2.2.2) hg191 dX13_word_191 ?_
                      refine lv_iload_n hx hb dX13_word_192 rfl (lv_at hl 1 rfl) ?_
                      refine lv_iadd hx hb dX13_word_193 ?_
                      refine lv_aload_n hx hb dX13_word_194 rfl (lv_at hl 0 rfl) ?_
                      refine mm_get hC hM (k := 19) hp_this.1 rfl inAX13 (by decide) q7_24 rfl dX13_word_195 ?_
                      refine lv_iload hx hb dX13_word_198 (lv_at hl 3 rfl) ?_
                      refine lv_iconst (v := 1) hx hb dX13_word_200 (by decide) ?_
                      refine lv_iadd hx hb dX13_word_201 ?_
                      obtain ⟨hg202, hf⟩ := mm_gd hf
                      refine mm_iald hC hM (hp_this.2.2.2.2.2.2.2.2.2.2.2.2) hg202 dX13_word_202 ?_
                      refine lv_icmp_ne (tgt := 211) hx hb dX13_word_203 (by decide) (fun hcd => ?_) (fun hcd => ?_)
                      · rw [if_neg hcd] at hf
                        refine lv_iload_n hx hb dX13_word_211 rfl (lv_at hl 2 rfl) ?_
                        refine lv_istore_n (lv' := [(2, .int L167_x2), (0, .ref b), (1, .int (L25_x1 + 1)), (4, .int L167_x4)]) hx hb dX13_word_212 rfl hl (by decide) rfl (fun ls hl => ?_)
                        refine lv_iinc (v := (L167_x4 + 1)) (lv' := [(4, .int (L167_x4 + 1)), (2, .int L167_x2), (0, .ref b), (1, .int (L25_x1 + 1))]) hx hb dX13_word_213 hl (k := 3) rfl rfl (by decide) rfl (fun ls hl => ?_)
                        refine lv_goto (tgt := 167) hx hb dX13_word_216 (by decide) ?_
                        exact ih _ _ _ hf _ _ hM _ (lv_sub hl [2, 3, 1, 0] rfl) hk
                      · rw [if_pos hcd] at hf
                        refine lv_iload hx hb dX13_word_206 (lv_at hl 3 rfl) ?_
                        refine lv_goto (tgt := 212) hx hb dX13_word_208 (by decide) ?_
                        refine lv_istore_n (lv' := [(2, .int L167_x4), (0, .ref b), (1, .int (L25_x1 + 1)), (4, .int L167_x4)]) hx hb dX13_word_212 rfl hl (by decide) rfl (fun ls hl => ?_)
                        refine lv_iinc (v := (L167_x4 + 1)) (lv' := [(4, .int (L167_x4 + 1)), (2, .int L167_x4), (0, .ref b), (1, .int (L25_x1 + 1))]) hx hb dX13_word_213 hl (k := 3) rfl rfl (by decide) rfl (fun ls hl => ?_)
                        refine lv_goto (tgt := 167) hx hb dX13_word_216 (by decide) ?_
                        exact ih _ _ _ hf _ _ hM _ (lv_sub hl [2, 3, 1, 0] rfl) hk
              obtain ⟨q167, hq167, hf⟩ := mm_bd hf
              refine L167 K _ _ _ hq167 _ _ hM _ (lv_sub hl [2, 1, 3, 0] rfl) (fun H locs hM ls hl => ?_)
              refine lv_goto (tgt := 25) hx hb dX13_word_219 (by decide) ?_
              exact ih _ _ _ _ _ _ hf _ _ _ hM hp_this hF _ (lv_sub hl [0, 1, 2] rfl) hk
  obtain ⟨q25, hq25, hf⟩ := mm_bd hf
  refine L25 K _ _ _ _ _ _ hq25 _ _ _ hM hp_this hF _ (lv_sub hl [2, 1, 0] rfl) (fun w25 H locs hM hp_this hF ls hl => ?_)
  refine lv_iload_n hx hb dX13_word_222 rfl (lv_at hl 0 rfl) ?_
  cases hf
  exact hret hM dX13_word_223 rfl ⟨rfl, hp_this, hF⟩
def f_X13_types_L9 (text : Nat → Int32) (hereP : Int32) (x1 : Int32) : Nat → (Int32) → (Int32) → (Int32) → (Nat → Int32) → Option (Int32 × Int32 × (Nat → Int32))
  | 0, _, _, _, _ => none
  | n + 1, x3, x4, thrown, v => if hereP ≤ x4 then some (x3, thrown, v) else if thrown = 0 then mm_g (mm_ck x4 60) ((f_X13_move (text x4.toNatClampNeg)).bind fun q34 => (f_X13_appends thrown v x1 q34).bind fun q37 => f_X13_types_L9 text hereP x1 n q37.1 (x4 + 1) q37.2.1 q37.2.2) else some (x3, thrown, v)
def f_X13_types (K : Nat) (thrown : Int32) (v : Nat → Int32) (text : Nat → Int32) (hereP : Int32) (x1 : Int32) (x2 : Int32) : Option (Int32 × Int32 × (Nat → Int32)) := (f_X13_empties K thrown v x1).bind fun q2 => (f_X13_types_L9 text hereP x1 K q2.1 x2 q2.2.1 q2.2.2).bind fun q9 => some (q9.1, q9.2.1, q9.2.2)
set_option maxHeartbeats 4000000 in
set_option maxRecDepth 100000 in
theorem c_X13_types (l : Launch) {G : mm_G} {K : Nat} {w : va_W} {sz : Nat} {b : Nat} {thrown : Int32} {changes : Int32} {errorAt : Int32} {failedAt : Int32} {isSaved : Int32} {v : Nat → Int32} {before : Nat → Int32} {saved : Nat → Int32} {past : Nat → Int32} {far : Nat → Int32} {scratch : Nat → Int32} {best : Nat → Int32} {thenX : Int32} {thenY : Int32} {thenMet : Int32} {text : Nat → Int32} {line : Nat → Int32} {isLeft : Nat → Int32} {words : Nat → Int32} {wordAt : Nat → Int32} {textN : Int32} {hereP : Int32} {endP : Int32} {lineN : Int32} {isWrong : Int32} {isDoing : Int32} {x1 : Int32} {x2 : Int32} {X : Int32 × Int32 × (Nat → Int32)} (hf : f_X13_types K thrown v text hereP x1 x2 = some X) (hp_this : At13 G w b thrown changes errorAt failedAt isSaved v before saved past far scratch best thenX thenY thenMet text line isLeft words wordAt textN hereP endP lineN isWrong isDoing) : Met l yX13_types (Cond.code yX13_types cX13_types 5 (some .int) :: gAll) ({ frames := 3, cells := 0, slots := 0, locals := 65 }) (va_Pc [.ref b, .int x1, .int x2] (mm_Pre G w sz)) (mm_Qi G w sz (fun r w' => r = X.1 ∧ At13 G w' b X.2.1 changes errorAt failedAt isSaved X.2.2 before saved past far scratch best thenX thenY thenMet text line isLeft words wordAt textN hereP endP lineN isWrong isDoing ∧ mm_fr w w' b (b + 13))) 0 0 (va_A w sz) := by
  refine mm_headI [.ref b, .int x1, .int x2] (by decide +kernel) rfl (Nat.le_of_ble_eq_true rfl) ?_
  intro p e s m args below meth c A Q hsz hC hM hret ls hl
  have hx := hC.1.1
  have hb := hC.1.2.1
  have hl : lv_has ls 5 [(0, .ref b), (1, .int x1), (2, .int x2)] := hl
  have hF : mm_fr w w b (b + 13) := mm_fr.rf
  rw [f_X13_types] at hf
  refine lv_aload_n hx hb dX13_types_0 rfl (lv_at hl 0 rfl) ?_
  refine lv_iload_n hx hb dX13_types_1 rfl (lv_at hl 1 rfl) ?_
  obtain ⟨q2, hq2, hf⟩ := mm_bd hf
  refine mm_Vi (rest := []) hC hM (c_X13_empties l hq2 hp_this) q8_39 q1_12 ykX13_empties q8_36 q8_38 qp_8f954e19 hp_this.1 rfl ⟨rfl, rfl⟩ ⟨Nat.le_of_ble_eq_true rfl, Nat.le_of_ble_eq_true rfl⟩ rfl hl.1 rfl (Nat.le_of_ble_eq_true rfl) dX13_types_2 ⟨Nat.le_of_ble_eq_true rfl, Nat.le_of_ble_eq_true rfl⟩ (fun r w2 H locs hM hw => ?_)
  obtain ⟨hr, hn_this, hfr⟩ := hw
  rw [hr]
  have hp_this := hn_this
  have hF := hF.tr (hfr.wide (by omega) (by omega))
  refine lv_istore_n (lv' := [(3, .int q2.1), (0, .ref b), (1, .int x1), (2, .int x2)]) hx hb dX13_types_5 rfl hl (by decide) rfl (fun ls hl => ?_)
  refine lv_iload_n hx hb dX13_types_6 rfl (lv_at hl 3 rfl) ?_
  refine lv_istore (lv' := [(4, .int x2), (3, .int q2.1), (0, .ref b), (1, .int x1), (2, .int x2)]) hx hb dX13_types_7 hl (by decide) rfl (fun ls hl => ?_)
  have L9 : ∀ (n : Nat) (L9_x3 : Int32) (L9_x4 : Int32) (L9_thrown : Int32) (L9_v : Nat → Int32) (X : Int32 × Int32 × (Nat → Int32)), f_X13_types_L9 text hereP x1 n L9_x3 L9_x4 L9_thrown L9_v = some X → ∀ (L9_w : va_W) (H : Heap) (locs : List Loc), mm_S G A s.heap L9_w H locs → At13 G L9_w b L9_thrown changes errorAt failedAt isSaved L9_v before saved past far scratch best thenX thenY thenMet text line isLeft words wordAt textN hereP endP lineN isWrong isDoing → mm_fr w L9_w b (b + 13) → ∀ (ls : Array Slot), lv_has ls 5 [(0, .ref b), (1, .int x1), (3, .int L9_x3), (4, .int L9_x4)] → (∀ (w9 : va_W) (H : Heap) (locs : List Loc), mm_S G A s.heap w9 H locs → At13 G w9 b X.2.1 changes errorAt failedAt isSaved X.2.2 before saved past far scratch best thenX thenY thenMet text line isLeft words wordAt textN hereP endP lineN isWrong isDoing → mm_fr w w9 b (b + 13) → ∀ (ls : Array Slot), lv_has ls 5 [(3, .int X.1)] → W p l e ({ frames := 3, cells := 0, slots := 0, locals := 65 } : Room) s m args below meth c H locs 0 0 Q (F0 m 47 ls [])) → W p l e ({ frames := 3, cells := 0, slots := 0, locals := 65 } : Room) s m args below meth c H locs 0 0 Q (F0 m 9 ls []) := by
    intro n
    induction n with
    | zero => intro L9_x3 L9_x4 L9_thrown L9_v X hf; cases hf
    | succ n ih =>
      intro L9_x3 L9_x4 L9_thrown L9_v X hf L9_w H locs hM hp_this hF ls hl hk
      rw [f_X13_types_L9] at hf
      refine lv_iload hx hb dX13_types_9 (lv_at hl 3 rfl) ?_
      refine lv_aload_n hx hb dX13_types_11 rfl (lv_at hl 0 rfl) ?_
      refine mm_get hC hM (k := 21) hp_this.1 rfl inAX13 (by decide) q7_26 rfl dX13_types_12 ?_
      refine lv_icmp_ge (tgt := 47) hx hb dX13_types_15 (by decide) (fun hcd => ?_) (fun hcd => ?_)
      · rw [if_pos hcd] at hf
        cases hf
        exact hk _ _ _ hM hp_this hF _ (lv_sub hl [2] rfl)
      · rw [if_neg hcd] at hf
        refine lv_aload_n hx hb dX13_types_18 rfl (lv_at hl 0 rfl) ?_
        refine mm_get hC hM (k := 0) hp_this.1 rfl inAX13 (by decide) q7_5 rfl dX13_types_19 ?_
        refine lv_if_ne (tgt := 47) hx hb dX13_types_22 (by decide) (fun hcd => ?_) (fun hcd => ?_)
        · rw [if_neg hcd] at hf
          cases hf
          exact hk _ _ _ hM hp_this hF _ (lv_sub hl [2] rfl)
        · rw [if_pos hcd] at hf
          refine lv_aload_n hx hb dX13_types_25 rfl (lv_at hl 0 rfl) ?_
          refine lv_iload_n hx hb dX13_types_26 rfl (lv_at hl 1 rfl) ?_
          refine lv_aload_n hx hb dX13_types_27 rfl (lv_at hl 0 rfl) ?_
          refine mm_get hC hM (k := 15) hp_this.1 rfl inAX13 (by decide) q7_20 rfl dX13_types_28 ?_
          refine lv_iload hx hb dX13_types_31 (lv_at hl 3 rfl) ?_
          obtain ⟨hg33, hf⟩ := mm_gd hf
          refine mm_iald hC hM (hp_this.2.2.2.2.2.2.2.2.1) hg33 dX13_types_33 ?_
          obtain ⟨q34, hq34, hf⟩ := mm_bd hf
          refine mm_Si (rest := [.int x1, .ref b]) hC hM (c_X13_move l hq34) q8_21 q1_12 ykX13_move q8_19 q8_20 ⟨rfl, rfl⟩ ⟨Nat.le_of_ble_eq_true rfl, Nat.le_of_ble_eq_true rfl⟩ rfl hl.1 rfl (Nat.le_of_ble_eq_true rfl) dX13_types_34 ⟨Nat.le_of_ble_eq_true rfl, Nat.le_of_ble_eq_true rfl⟩ (fun r w34 H locs hM hw => ?_)
          obtain ⟨hr, hw⟩ := hw
          rw [hr]
          rw [hw] at hM
          obtain ⟨q37, hq37, hf⟩ := mm_bd hf
          refine mm_Vi (rest := []) hC hM (c_X13_appends l hq37 hp_this) q8_25 q1_12 ykX13_appends q8_22 q8_24 qp_a91325c9 hp_this.1 rfl ⟨rfl, rfl⟩ ⟨Nat.le_of_ble_eq_true rfl, Nat.le_of_ble_eq_true rfl⟩ rfl hl.1 rfl (Nat.le_of_ble_eq_true rfl) dX13_types_37 ⟨Nat.le_of_ble_eq_true rfl, Nat.le_of_ble_eq_true rfl⟩ (fun r w37 H locs hM hw => ?_)
          obtain ⟨hr, hn_this, hfr⟩ := hw
          rw [hr]
          have hp_this := hn_this
          have hF := hF.tr (hfr.wide (by omega) (by omega))
          refine lv_istore_n (lv' := [(3, .int q37.1), (0, .ref b), (1, .int x1), (4, .int L9_x4)]) hx hb dX13_types_40 rfl hl (by decide) rfl (fun ls hl => ?_)
          refine lv_iinc (v := (L9_x4 + 1)) (lv' := [(4, .int (L9_x4 + 1)), (3, .int q37.1), (0, .ref b), (1, .int x1)]) hx hb dX13_types_41 hl (k := 3) rfl rfl (by decide) rfl (fun ls hl => ?_)
          refine lv_goto (tgt := 9) hx hb dX13_types_44 (by decide) ?_
          exact ih _ _ _ _ _ hf _ _ _ hM hp_this hF _ (lv_sub hl [2, 3, 1, 0] rfl) hk
  obtain ⟨q9, hq9, hf⟩ := mm_bd hf
  refine L9 K _ _ _ _ _ hq9 _ _ _ hM hp_this hF _ (lv_sub hl [2, 3, 1, 0] rfl) (fun w9 H locs hM hp_this hF ls hl => ?_)
  refine lv_iload_n hx hb dX13_types_47 rfl (lv_at hl 0 rfl) ?_
  cases hf
  exact hret hM dX13_types_48 rfl ⟨rfl, hp_this, hF⟩
def f_X13_does (K : Nat) (thrown : Int32) (v : Nat → Int32) (scratch : Nat → Int32) (thenX : Int32) (thenY : Int32) (thenMet : Int32) (text : Nat → Int32) (hereP : Int32) (x1 : Int32) (x2 : Int32) (x3 : Int32) (x4 : Int32) : Option (Int32 × Int32 × (Nat → Int32) × (Nat → Int32) × Int32 × Int32 × Int32) := if x1 = 0 then (f_X13_grows K thrown v x2 x3).bind fun q59 => some (q59.1, q59.2.1, q59.2.2, scratch, thenX, thenY, thenMet) else if x1 = 1 then (f_X13_breaks K thrown v x2 x3).bind fun q66 => some (q66.1, q66.2.1, q66.2.2, scratch, thenX, thenY, thenMet) else if x1 = 2 then (f_X13_boats K thrown v x2 x3).bind fun q73 => some (q73.1, q73.2.1, q73.2.2, scratch, thenX, thenY, thenMet) else if x1 = 3 then (f_X13_types K thrown v text hereP x2 x4).bind fun q81 => some (q81.1, q81.2.1, q81.2.2, scratch, thenX, thenY, thenMet) else if x1 = 4 then (f_X13_mirrors K thrown v scratch x2 x3).bind fun q88 => some (q88.1, q88.2.1, q88.2.2.1, q88.2.2.2, thenX, thenY, thenMet) else if x1 = 5 then (f_X13_turns K thrown v scratch x2 x3).bind fun q95 => some (q95.1, q95.2.1, q95.2.2.1, q95.2.2.2, thenX, thenY, thenMet) else if x1 = 6 then (f_X13_reduces K thrown v scratch x2).bind fun q101 => some (q101.1, q101.2.1, q101.2.2.1, q101.2.2.2, thenX, thenY, thenMet) else if x1 = 7 then (f_X13_find K v x2).bind fun q108 => (f_X13_sails K thrown v thenX thenY thenMet q108 x3).bind fun q112 => some (q112.1, q112.2.1, q112.2.2.1, scratch, q112.2.2.2.1, q112.2.2.2.2.1, q112.2.2.2.2.2) else if x1 = 8 then (f_X13_fogs thrown v x2).bind fun q125 => some (q125.1, q125.2.1, q125.2.2, scratch, thenX, thenY, thenMet) else if x1 = 9 then (f_X13_lands K thrown v x2 x3).bind fun q119 => some (q119.1, q119.2.1, q119.2.2, scratch, thenX, thenY, thenMet) else (f_X13_fogs thrown v x2).bind fun q125 => some (q125.1, q125.2.1, q125.2.2, scratch, thenX, thenY, thenMet)
set_option maxHeartbeats 4000000 in
set_option maxRecDepth 100000 in
theorem c_X13_does (l : Launch) {G : mm_G} {K : Nat} {w : va_W} {sz : Nat} {b : Nat} {thrown : Int32} {changes : Int32} {errorAt : Int32} {failedAt : Int32} {isSaved : Int32} {v : Nat → Int32} {before : Nat → Int32} {saved : Nat → Int32} {past : Nat → Int32} {far : Nat → Int32} {scratch : Nat → Int32} {best : Nat → Int32} {thenX : Int32} {thenY : Int32} {thenMet : Int32} {text : Nat → Int32} {line : Nat → Int32} {isLeft : Nat → Int32} {words : Nat → Int32} {wordAt : Nat → Int32} {textN : Int32} {hereP : Int32} {endP : Int32} {lineN : Int32} {isWrong : Int32} {isDoing : Int32} {x1 : Int32} {x2 : Int32} {x3 : Int32} {x4 : Int32} {X : Int32 × Int32 × (Nat → Int32) × (Nat → Int32) × Int32 × Int32 × Int32} (hf : f_X13_does K thrown v scratch thenX thenY thenMet text hereP x1 x2 x3 x4 = some X) (hp_this : At13 G w b thrown changes errorAt failedAt isSaved v before saved past far scratch best thenX thenY thenMet text line isLeft words wordAt textN hereP endP lineN isWrong isDoing) : Met l yX13_does (Cond.code yX13_does cX13_does 5 (some .int) :: gAll) ({ frames := 5, cells := 0, slots := 0, locals := 112 }) (va_Pc [.ref b, .int x1, .int x2, .int x3, .int x4] (mm_Pre G w sz)) (mm_Qi G w sz (fun r w' => r = X.1 ∧ At13 G w' b X.2.1 changes errorAt failedAt isSaved X.2.2.1 before saved past far X.2.2.2.1 best X.2.2.2.2.1 X.2.2.2.2.2.1 X.2.2.2.2.2.2 text line isLeft words wordAt textN hereP endP lineN isWrong isDoing ∧ mm_fr w w' b (b + 13))) 0 0 (va_A w sz) := by
  refine mm_headI [.ref b, .int x1, .int x2, .int x3, .int x4] (by decide +kernel) rfl (Nat.le_of_ble_eq_true rfl) ?_
  intro p e s m args below meth c A Q hsz hC hM hret ls hl
  have hx := hC.1.1
  have hb := hC.1.2.1
  have hl : lv_has ls 5 [(0, .ref b), (1, .int x1), (2, .int x2), (3, .int x3), (4, .int x4)] := hl
  have hF : mm_fr w w b (b + 13) := mm_fr.rf
  rw [f_X13_does] at hf
  refine lv_iload_n hx hb dX13_does_0 rfl (lv_at hl 1 rfl) ?_
  by_cases c1_0 : x1 = 0
  · rw [if_pos c1_0] at hf
    rw [c1_0]
    refine lv_tableIn (tgt := 56) hx hb dX13_does_1 (by decide) (by decide) rfl (by decide) ?_
    refine lv_aload_n hx hb dX13_does_56 rfl (lv_at hl 0 rfl) ?_
    refine lv_iload_n hx hb dX13_does_57 rfl (lv_at hl 2 rfl) ?_
    refine lv_iload_n hx hb dX13_does_58 rfl (lv_at hl 3 rfl) ?_
    obtain ⟨q59, hq59, hf⟩ := mm_bd hf
    refine mm_Vi (rest := []) hC hM (c_X13_grows l hq59 hp_this) q7_102 q1_12 ykX13_grows q7_99 q7_101 qp_b099d306 hp_this.1 rfl ⟨rfl, rfl⟩ ⟨Nat.le_of_ble_eq_true rfl, Nat.le_of_ble_eq_true rfl⟩ rfl hl.1 rfl (Nat.le_of_ble_eq_true rfl) dX13_does_59 ⟨Nat.le_of_ble_eq_true rfl, Nat.le_of_ble_eq_true rfl⟩ (fun r w59 H locs hM hw => ?_)
    obtain ⟨hr, hn_this, hfr⟩ := hw
    rw [hr]
    have hp_this := hn_this
    have hF := hF.tr (hfr.wide (by omega) (by omega))
    cases hf
    exact hret hM dX13_does_62 rfl ⟨rfl, hp_this, hF⟩
  · rw [if_neg c1_0] at hf
    by_cases c1_1 : x1 = 1
    · rw [if_pos c1_1] at hf
      rw [c1_1]
      refine lv_tableIn (tgt := 63) hx hb dX13_does_1 (by decide) (by decide) rfl (by decide) ?_
      refine lv_aload_n hx hb dX13_does_63 rfl (lv_at hl 0 rfl) ?_
      refine lv_iload_n hx hb dX13_does_64 rfl (lv_at hl 2 rfl) ?_
      refine lv_iload_n hx hb dX13_does_65 rfl (lv_at hl 3 rfl) ?_
      obtain ⟨q66, hq66, hf⟩ := mm_bd hf
      refine mm_Vi (rest := []) hC hM (c_X13_breaks l hq66 hp_this) q7_141 q1_12 ykX13_breaks q7_138 q7_140 qp_d566fdeb hp_this.1 rfl ⟨rfl, rfl⟩ ⟨Nat.le_of_ble_eq_true rfl, Nat.le_of_ble_eq_true rfl⟩ rfl hl.1 rfl (Nat.le_of_ble_eq_true rfl) dX13_does_66 ⟨Nat.le_of_ble_eq_true rfl, Nat.le_of_ble_eq_true rfl⟩ (fun r w66 H locs hM hw => ?_)
      obtain ⟨hr, hn_this, hfr⟩ := hw
      rw [hr]
      have hp_this := hn_this
      have hF := hF.tr (hfr.wide (by omega) (by omega))
      cases hf
      exact hret hM dX13_does_69 rfl ⟨rfl, hp_this, hF⟩
    · rw [if_neg c1_1] at hf
      by_cases c1_2 : x1 = 2
      · rw [if_pos c1_2] at hf
        rw [c1_2]
        refine lv_tableIn (tgt := 70) hx hb dX13_does_1 (by decide) (by decide) rfl (by decide) ?_
        refine lv_aload_n hx hb dX13_does_70 rfl (lv_at hl 0 rfl) ?_
        refine lv_iload_n hx hb dX13_does_71 rfl (lv_at hl 2 rfl) ?_
        refine lv_iload_n hx hb dX13_does_72 rfl (lv_at hl 3 rfl) ?_
        obtain ⟨q73, hq73, hf⟩ := mm_bd hf
        refine mm_Vi (rest := []) hC hM (c_X13_boats l hq73 hp_this) q7_210 q1_12 ykX13_boats q7_207 q7_209 qp_9bbcd35d hp_this.1 rfl ⟨rfl, rfl⟩ ⟨Nat.le_of_ble_eq_true rfl, Nat.le_of_ble_eq_true rfl⟩ rfl hl.1 rfl (Nat.le_of_ble_eq_true rfl) dX13_does_73 ⟨Nat.le_of_ble_eq_true rfl, Nat.le_of_ble_eq_true rfl⟩ (fun r w73 H locs hM hw => ?_)
        obtain ⟨hr, hn_this, hfr⟩ := hw
        rw [hr]
        have hp_this := hn_this
        have hF := hF.tr (hfr.wide (by omega) (by omega))
        cases hf
        exact hret hM dX13_does_76 rfl ⟨rfl, hp_this, hF⟩
      · rw [if_neg c1_2] at hf
        by_cases c1_3 : x1 = 3
        · rw [if_pos c1_3] at hf
          rw [c1_3]
          refine lv_tableIn (tgt := 77) hx hb dX13_does_1 (by decide) (by decide) rfl (by decide) ?_
          refine lv_aload_n hx hb dX13_does_77 rfl (lv_at hl 0 rfl) ?_
          refine lv_iload_n hx hb dX13_does_78 rfl (lv_at hl 2 rfl) ?_
          refine lv_iload hx hb dX13_does_79 (lv_at hl 4 rfl) ?_
          obtain ⟨q81, hq81, hf⟩ := mm_bd hf
          refine mm_Vi (rest := []) hC hM (c_X13_types l hq81 hp_this) q9_34 q1_12 ykX13_types q9_31 q9_33 qp_512b397e hp_this.1 rfl ⟨rfl, rfl⟩ ⟨Nat.le_of_ble_eq_true rfl, Nat.le_of_ble_eq_true rfl⟩ rfl hl.1 rfl (Nat.le_of_ble_eq_true rfl) dX13_does_81 ⟨Nat.le_of_ble_eq_true rfl, Nat.le_of_ble_eq_true rfl⟩ (fun r w81 H locs hM hw => ?_)
          obtain ⟨hr, hn_this, hfr⟩ := hw
          rw [hr]
          have hp_this := hn_this
          have hF := hF.tr (hfr.wide (by omega) (by omega))
          cases hf
          exact hret hM dX13_does_84 rfl ⟨rfl, hp_this, hF⟩
        · rw [if_neg c1_3] at hf
          by_cases c1_4 : x1 = 4
          · rw [if_pos c1_4] at hf
            rw [c1_4]
            refine lv_tableIn (tgt := 85) hx hb dX13_does_1 (by decide) (by decide) rfl (by decide) ?_
            refine lv_aload_n hx hb dX13_does_85 rfl (lv_at hl 0 rfl) ?_
            refine lv_iload_n hx hb dX13_does_86 rfl (lv_at hl 2 rfl) ?_
            refine lv_iload_n hx hb dX13_does_87 rfl (lv_at hl 3 rfl) ?_
            obtain ⟨q88, hq88, hf⟩ := mm_bd hf
            refine mm_Vi (rest := []) hC hM (c_X13_mirrors l hq88 hp_this) q8_47 q1_12 ykX13_mirrors q8_44 q8_46 qp_44ed4a92 hp_this.1 rfl ⟨rfl, rfl⟩ ⟨Nat.le_of_ble_eq_true rfl, Nat.le_of_ble_eq_true rfl⟩ rfl hl.1 rfl (Nat.le_of_ble_eq_true rfl) dX13_does_88 ⟨Nat.le_of_ble_eq_true rfl, Nat.le_of_ble_eq_true rfl⟩ (fun r w88 H locs hM hw => ?_)
            obtain ⟨hr, hn_this, hfr⟩ := hw
            rw [hr]
            have hp_this := hn_this
            have hF := hF.tr (hfr.wide (by omega) (by omega))
            cases hf
            exact hret hM dX13_does_91 rfl ⟨rfl, hp_this, hF⟩
          · rw [if_neg c1_4] at hf
            by_cases c1_5 : x1 = 5
            · rw [if_pos c1_5] at hf
              rw [c1_5]
              refine lv_tableIn (tgt := 92) hx hb dX13_does_1 (by decide) (by decide) rfl (by decide) ?_
              refine lv_aload_n hx hb dX13_does_92 rfl (lv_at hl 0 rfl) ?_
              refine lv_iload_n hx hb dX13_does_93 rfl (lv_at hl 2 rfl) ?_
              refine lv_iload_n hx hb dX13_does_94 rfl (lv_at hl 3 rfl) ?_
              obtain ⟨q95, hq95, hf⟩ := mm_bd hf
              refine mm_Vi (rest := []) hC hM (c_X13_turns l hq95 hp_this) q8_62 q1_12 ykX13_turns q8_59 q8_61 qp_284a0b05 hp_this.1 rfl ⟨rfl, rfl⟩ ⟨Nat.le_of_ble_eq_true rfl, Nat.le_of_ble_eq_true rfl⟩ rfl hl.1 rfl (Nat.le_of_ble_eq_true rfl) dX13_does_95 ⟨Nat.le_of_ble_eq_true rfl, Nat.le_of_ble_eq_true rfl⟩ (fun r w95 H locs hM hw => ?_)
              obtain ⟨hr, hn_this, hfr⟩ := hw
              rw [hr]
              have hp_this := hn_this
              have hF := hF.tr (hfr.wide (by omega) (by omega))
              cases hf
              exact hret hM dX13_does_98 rfl ⟨rfl, hp_this, hF⟩
            · rw [if_neg c1_5] at hf
              by_cases c1_6 : x1 = 6
              · rw [if_pos c1_6] at hf
                rw [c1_6]
                refine lv_tableIn (tgt := 99) hx hb dX13_does_1 (by decide) (by decide) rfl (by decide) ?_
                refine lv_aload_n hx hb dX13_does_99 rfl (lv_at hl 0 rfl) ?_
                refine lv_iload_n hx hb dX13_does_100 rfl (lv_at hl 2 rfl) ?_
                obtain ⟨q101, hq101, hf⟩ := mm_bd hf
                refine mm_Vi (rest := []) hC hM (c_X13_reduces l hq101 hp_this) q8_70 q1_12 ykX13_reduces q8_67 q8_69 qp_ab96aab1 hp_this.1 rfl ⟨rfl, rfl⟩ ⟨Nat.le_of_ble_eq_true rfl, Nat.le_of_ble_eq_true rfl⟩ rfl hl.1 rfl (Nat.le_of_ble_eq_true rfl) dX13_does_101 ⟨Nat.le_of_ble_eq_true rfl, Nat.le_of_ble_eq_true rfl⟩ (fun r w101 H locs hM hw => ?_)
                obtain ⟨hr, hn_this, hfr⟩ := hw
                rw [hr]
                have hp_this := hn_this
                have hF := hF.tr (hfr.wide (by omega) (by omega))
                cases hf
                exact hret hM dX13_does_104 rfl ⟨rfl, hp_this, hF⟩
              · rw [if_neg c1_6] at hf
                by_cases c1_7 : x1 = 7
                · rw [if_pos c1_7] at hf
                  rw [c1_7]
                  refine lv_tableIn (tgt := 105) hx hb dX13_does_1 (by decide) (by decide) rfl (by decide) ?_
                  refine lv_aload_n hx hb dX13_does_105 rfl (lv_at hl 0 rfl) ?_
                  refine lv_aload_n hx hb dX13_does_106 rfl (lv_at hl 0 rfl) ?_
                  refine lv_iload_n hx hb dX13_does_107 rfl (lv_at hl 2 rfl) ?_
                  obtain ⟨q108, hq108, hf⟩ := mm_bd hf
                  refine mm_Vi (rest := [.ref b]) hC hM (c_X13_find l hq108 hp_this) q7_218 q1_12 ykX13_find q7_215 q7_217 qp_0f7fdc43 hp_this.1 rfl ⟨rfl, rfl⟩ ⟨Nat.le_of_ble_eq_true rfl, Nat.le_of_ble_eq_true rfl⟩ rfl hl.1 rfl (Nat.le_of_ble_eq_true rfl) dX13_does_108 ⟨Nat.le_of_ble_eq_true rfl, Nat.le_of_ble_eq_true rfl⟩ (fun r w108 H locs hM hw => ?_)
                  obtain ⟨hr, hw⟩ := hw
                  rw [hr]
                  rw [hw] at hM
                  refine lv_iload_n hx hb dX13_does_111 rfl (lv_at hl 3 rfl) ?_
                  obtain ⟨q112, hq112, hf⟩ := mm_bd hf
                  refine mm_Vi (rest := []) hC hM (c_X13_sails l hq112 hp_this) q8_101 q1_12 ykX13_sails q8_98 q8_100 qp_26a0d01b hp_this.1 rfl ⟨rfl, rfl⟩ ⟨Nat.le_of_ble_eq_true rfl, Nat.le_of_ble_eq_true rfl⟩ rfl hl.1 rfl (Nat.le_of_ble_eq_true rfl) dX13_does_112 ⟨Nat.le_of_ble_eq_true rfl, Nat.le_of_ble_eq_true rfl⟩ (fun r w112 H locs hM hw => ?_)
                  obtain ⟨hr, hn_this, hfr⟩ := hw
                  rw [hr]
                  have hp_this := hn_this
                  have hF := hF.tr (hfr.wide (by omega) (by omega))
                  cases hf
                  exact hret hM dX13_does_115 rfl ⟨rfl, hp_this, hF⟩
                · rw [if_neg c1_7] at hf
                  by_cases c1_8 : x1 = 8
                  · rw [if_pos c1_8] at hf
                    rw [c1_8]
                    refine lv_tableIn (tgt := 123) hx hb dX13_does_1 (by decide) (by decide) rfl (by decide) ?_
                    refine lv_aload_n hx hb dX13_does_123 rfl (lv_at hl 0 rfl) ?_
                    refine lv_iload_n hx hb dX13_does_124 rfl (lv_at hl 2 rfl) ?_
                    obtain ⟨q125, hq125, hf⟩ := mm_bd hf
                    refine mm_Vi (rest := []) hC hM (c_X13_fogs l hq125 hp_this) q7_198 q1_12 ykX13_fogs q7_195 q7_197 qp_5c36f82c hp_this.1 rfl ⟨rfl, rfl⟩ ⟨Nat.le_of_ble_eq_true rfl, Nat.le_of_ble_eq_true rfl⟩ rfl hl.1 rfl (Nat.le_of_ble_eq_true rfl) dX13_does_125 ⟨Nat.le_of_ble_eq_true rfl, Nat.le_of_ble_eq_true rfl⟩ (fun r w125 H locs hM hw => ?_)
                    obtain ⟨hr, hn_this, hfr⟩ := hw
                    rw [hr]
                    have hp_this := hn_this
                    have hF := hF.tr (hfr.wide (by omega) (by omega))
                    cases hf
                    exact hret hM dX13_does_128 rfl ⟨rfl, hp_this, hF⟩
                  · rw [if_neg c1_8] at hf
                    by_cases c1_9 : x1 = 9
                    · rw [if_pos c1_9] at hf
                      rw [c1_9]
                      refine lv_tableIn (tgt := 116) hx hb dX13_does_1 (by decide) (by decide) rfl (by decide) ?_
                      refine lv_aload_n hx hb dX13_does_116 rfl (lv_at hl 0 rfl) ?_
                      refine lv_iload_n hx hb dX13_does_117 rfl (lv_at hl 2 rfl) ?_
                      refine lv_iload_n hx hb dX13_does_118 rfl (lv_at hl 3 rfl) ?_
                      obtain ⟨q119, hq119, hf⟩ := mm_bd hf
                      refine mm_Vi (rest := []) hC hM (c_X13_lands l hq119 hp_this) q8_174 q1_12 ykX13_lands q8_171 q8_173 qp_6ff63dbc hp_this.1 rfl ⟨rfl, rfl⟩ ⟨Nat.le_of_ble_eq_true rfl, Nat.le_of_ble_eq_true rfl⟩ rfl hl.1 rfl (Nat.le_of_ble_eq_true rfl) dX13_does_119 ⟨Nat.le_of_ble_eq_true rfl, Nat.le_of_ble_eq_true rfl⟩ (fun r w119 H locs hM hw => ?_)
                      obtain ⟨hr, hn_this, hfr⟩ := hw
                      rw [hr]
                      have hp_this := hn_this
                      have hF := hF.tr (hfr.wide (by omega) (by omega))
                      cases hf
                      exact hret hM dX13_does_122 rfl ⟨rfl, hp_this, hF⟩
                    · rw [if_neg c1_9] at hf
                      refine lv_tableOut (tgt := 123) hx hb dX13_does_1 (by have n0 := mm_ne c1_0 (k := 0) rfl; have n1 := mm_ne c1_1 (k := 1) rfl; have n2 := mm_ne c1_2 (k := 2) rfl; have n3 := mm_ne c1_3 (k := 3) rfl; have n4 := mm_ne c1_4 (k := 4) rfl; have n5 := mm_ne c1_5 (k := 5) rfl; have n6 := mm_ne c1_6 (k := 6) rfl; have n7 := mm_ne c1_7 (k := 7) rfl; have n8 := mm_ne c1_8 (k := 8) rfl; have n9 := mm_ne c1_9 (k := 9) rfl; omega) (by decide) ?_
                      refine lv_aload_n hx hb dX13_does_123 rfl (lv_at hl 0 rfl) ?_
                      refine lv_iload_n hx hb dX13_does_124 rfl (lv_at hl 2 rfl) ?_
                      obtain ⟨q125, hq125, hf⟩ := mm_bd hf
                      refine mm_Vi (rest := []) hC hM (c_X13_fogs l hq125 hp_this) q7_198 q1_12 ykX13_fogs q7_195 q7_197 qp_5c36f82c hp_this.1 rfl ⟨rfl, rfl⟩ ⟨Nat.le_of_ble_eq_true rfl, Nat.le_of_ble_eq_true rfl⟩ rfl hl.1 rfl (Nat.le_of_ble_eq_true rfl) dX13_does_125 ⟨Nat.le_of_ble_eq_true rfl, Nat.le_of_ble_eq_true rfl⟩ (fun r w125 H locs hM hw => ?_)
                      obtain ⟨hr, hn_this, hfr⟩ := hw
                      rw [hr]
                      have hp_this := hn_this
                      have hF := hF.tr (hfr.wide (by omega) (by omega))
                      cases hf
                      exact hret hM dX13_does_128 rfl ⟨rfl, hp_this, hF⟩
def f_X13_command_B26 (text : Nat → Int32) (hereP : Int32) (endP : Int32) (isWrong : Int32) (x1 : Int32) : Option (Int32 × Int32) := if x1 = 3 then (f_X13_mark text hereP endP isWrong 61).bind fun q34 => some (q34.1, q34.2) else some (hereP, isWrong)
def f_X13_command_B37 (text : Nat → Int32) (hereP : Int32) (endP : Int32) (isWrong : Int32) (x1 : Int32) : Option (Int32 × Int32) := if x1 = 7 then (f_X13_mark text hereP endP isWrong 32).bind fun q46 => some (q46.1, q46.2) else some (hereP, isWrong)
def f_X13_command_B49 (text : Nat → Int32) (hereP : Int32) (endP : Int32) (isWrong : Int32) (x1 : Int32) : Option (Int32 × Int32) := if x1 = 8 then (f_X13_mark text hereP endP isWrong 62).bind fun q58 => some (q58.1, q58.2) else some (hereP, isWrong)
def f_X13_command_B61 (text : Nat → Int32) (hereP : Int32) (endP : Int32) (isWrong : Int32) (x1 : Int32) (x2 : Int32) : Option (Int32 × Int32 × Int32) := if x1 = 3 then some (x2, hereP, isWrong) else if x1 = 6 then some (x2, hereP, isWrong) else if x1 = 10 then some (x2, hereP, isWrong) else (f_X13_digit text hereP endP isWrong).bind fun q79 => some (q79.1, q79.2.1, q79.2.2)
def f_X13_command_B83 (text : Nat → Int32) (hereP : Int32) (endP : Int32) (isWrong : Int32) (x1 : Int32) (x3 : Int32) (x4 : Int32) : Option (Int32 × Int32 × Int32 × Int32) := if x1 = 8 then (f_X13_digit text hereP endP isWrong).bind fun q90 => (f_X13_mark text q90.2.1 endP q90.2.2 32).bind fun q97 => (f_X13_digit text q97.1 endP q97.2).bind fun q101 => some (q90.1, q101.1, q101.2.1, q101.2.2) else some (x3, x4, hereP, isWrong)
def f_X13_command_L112 (text : Nat → Int32) (endP : Int32) (isWrong : Int32) (x1 : Int32) : Nat → (Int32) → Option (Int32)
  | 0, _ => none
  | n + 1, hereP => if x1 = 3 then if isWrong = 0 then (f_X13_sign text hereP endP).bind fun q125 => (f_X13_move q125).bind fun q128 => if q128 < 0 then some hereP else f_X13_command_L112 text endP isWrong x1 n (hereP + 1) else some hereP else some hereP
def f_X13_command (K : Nat) (thrown : Int32) (v : Nat → Int32) (far : Nat → Int32) (scratch : Nat → Int32) (thenX : Int32) (thenY : Int32) (thenMet : Int32) (text : Nat → Int32) (isLeft : Nat → Int32) (words : Nat → Int32) (wordAt : Nat → Int32) (hereP : Int32) (endP : Int32) (isWrong : Int32) (isDoing : Int32) : Option (Int32 × (Nat → Int32) × (Nat → Int32) × (Nat → Int32) × Int32 × Int32 × Int32 × (Nat → Int32) × Int32 × Int32) := (f_X13_word K text isLeft words wordAt hereP endP isWrong).bind fun q1 => if q1.2.2.2 = 0 then (f_X13_digit text q1.2.2.1 endP q1.2.2.2).bind fun q21 => (f_X13_command_B26 text q21.2.1 endP q21.2.2 q1.1).bind fun q26 => (f_X13_command_B37 text q26.1 endP q26.2 q1.1).bind fun q37 => (f_X13_command_B49 text q37.1 endP q37.2 q1.1).bind fun q49 => (f_X13_command_B61 text q49.1 endP q49.2 q1.1 0).bind fun q61 => (f_X13_command_B83 text q61.2.1 endP q61.2.2 q1.1 0 0).bind fun q83 => (f_X13_command_L112 text endP q83.2.2.2 q1.1 K q83.2.2.1).bind fun q112 => if q83.2.2.2 = 0 then if isDoing = 0 then some (thrown, v, far, scratch, thenX, thenY, thenMet, q1.2.1, q112, q83.2.2.2) else if q1.1 = 8 then (f_X13_find K v q21.1).bind fun q172 => (f_X13_plans K thrown v far scratch thenX thenY q172 q61.1 q83.1 q83.2.1).bind fun q179 => some (q179.2.1, q179.2.2.1, q179.2.2.2.1, q179.2.2.2.2.1, q179.2.2.2.2.2.1, q179.2.2.2.2.2.2, thenMet, q1.2.1, q112, q83.2.2.2) else (f_X13_does K thrown v scratch thenX thenY thenMet text q112 q1.1 q21.1 q61.1 q83.2.2.1).bind fun q192 => some (q192.2.1, q192.2.2.1, far, q192.2.2.2.1, q192.2.2.2.2.1, q192.2.2.2.2.2.1, q192.2.2.2.2.2.2, q1.2.1, q112, q83.2.2.2) else some (thrown, v, far, scratch, thenX, thenY, thenMet, q1.2.1, q112, q83.2.2.2) else some (thrown, v, far, scratch, thenX, thenY, thenMet, q1.2.1, q1.2.2.1, q1.2.2.2)
set_option maxHeartbeats 4000000 in
set_option maxRecDepth 100000 in
theorem c_X13_command (l : Launch) {G : mm_G} {K : Nat} {w : va_W} {sz : Nat} {b : Nat} {thrown : Int32} {changes : Int32} {errorAt : Int32} {failedAt : Int32} {isSaved : Int32} {v : Nat → Int32} {before : Nat → Int32} {saved : Nat → Int32} {past : Nat → Int32} {far : Nat → Int32} {scratch : Nat → Int32} {best : Nat → Int32} {thenX : Int32} {thenY : Int32} {thenMet : Int32} {text : Nat → Int32} {line : Nat → Int32} {isLeft : Nat → Int32} {words : Nat → Int32} {wordAt : Nat → Int32} {textN : Int32} {hereP : Int32} {endP : Int32} {lineN : Int32} {isWrong : Int32} {isDoing : Int32} {X : Int32 × (Nat → Int32) × (Nat → Int32) × (Nat → Int32) × Int32 × Int32 × Int32 × (Nat → Int32) × Int32 × Int32} (hf : f_X13_command K thrown v far scratch thenX thenY thenMet text isLeft words wordAt hereP endP isWrong isDoing = some X) (hp_this : At13 G w b thrown changes errorAt failedAt isSaved v before saved past far scratch best thenX thenY thenMet text line isLeft words wordAt textN hereP endP lineN isWrong isDoing) : Met l yX13_command (Cond.code yX13_command cX13_command 8 none :: gAll) ({ frames := 6, cells := 0, slots := 0, locals := 136 }) (va_Pc [.ref b] (mm_Pre G w sz)) (mm_Qv G w sz (fun w' => At13 G w' b X.1 changes errorAt failedAt isSaved X.2.1 before saved past X.2.2.1 X.2.2.2.1 best X.2.2.2.2.1 X.2.2.2.2.2.1 X.2.2.2.2.2.2.1 text line X.2.2.2.2.2.2.2.1 words wordAt textN X.2.2.2.2.2.2.2.2.1 endP lineN X.2.2.2.2.2.2.2.2.2 isDoing ∧ mm_fr w w' b (b + 13))) 0 0 (va_A w sz) := by
  refine mm_headV [.ref b] (by decide +kernel) rfl (Nat.le_of_ble_eq_true rfl) ?_
  intro p e s m args below meth c A Q hsz hC hM hret hnm ls hl
  have hx := hC.1.1
  have hb := hC.1.2.1
  have hl : lv_has ls 8 [(0, .ref b)] := hl
  have hF : mm_fr w w b (b + 13) := mm_fr.rf
  rw [f_X13_command] at hf
  refine lv_aload_n hx hb dX13_command_0 rfl (lv_at hl 0 rfl) ?_
  obtain ⟨q1, hq1, hf⟩ := mm_bd hf
  refine mm_Vi (rest := []) hC hM (c_X13_word l hq1 hp_this) q9_14 q1_12 ykX13_word q9_11 q9_13 qp_992640a6 hp_this.1 rfl ⟨rfl, rfl⟩ ⟨Nat.le_of_ble_eq_true rfl, Nat.le_of_ble_eq_true rfl⟩ rfl hl.1 rfl (Nat.le_of_ble_eq_true rfl) dX13_command_1 ⟨Nat.le_of_ble_eq_true rfl, Nat.le_of_ble_eq_true rfl⟩ (fun r w1 H locs hM hw => ?_)
  obtain ⟨hr, hn_this, hfr⟩ := hw
  rw [hr]
  have hp_this := hn_this
  have hF := hF.tr (hfr.wide (by omega) (by omega))
  refine lv_istore_n (lv' := [(1, .int q1.1), (0, .ref b)]) hx hb dX13_command_4 rfl hl (by decide) rfl (fun ls hl => ?_)
  refine lv_iconst (v := 0) hx hb dX13_command_5 (by decide) ?_
  refine lv_istore_n (lv' := [(2, .int 0), (1, .int q1.1), (0, .ref b)]) hx hb dX13_command_6 rfl hl (by decide) rfl (fun ls hl => ?_)
  refine lv_iconst (v := 0) hx hb dX13_command_7 (by decide) ?_
  refine lv_istore_n (lv' := [(3, .int 0), (2, .int 0), (1, .int q1.1), (0, .ref b)]) hx hb dX13_command_8 rfl hl (by decide) rfl (fun ls hl => ?_)
  refine lv_iconst (v := 0) hx hb dX13_command_9 (by decide) ?_
  refine lv_istore (lv' := [(4, .int 0), (3, .int 0), (2, .int 0), (1, .int q1.1), (0, .ref b)]) hx hb dX13_command_10 hl (by decide) rfl (fun ls hl => ?_)
  refine lv_aload_n hx hb dX13_command_12 rfl (lv_at hl 4 rfl) ?_
  refine mm_get hC hM (k := 24) hp_this.1 rfl inAX13 (by decide) q7_29 rfl dX13_command_13 ?_
  refine lv_if_eq (tgt := 20) hx hb dX13_command_16 (by decide) (fun hcd => ?_) (fun hcd => ?_)
  · rw [if_pos hcd] at hf
    refine lv_aload_n hx hb dX13_command_20 rfl (lv_at hl 4 rfl) ?_
    obtain ⟨q21, hq21, hf⟩ := mm_bd hf
    refine mm_Vi (rest := []) hC hM (c_X13_digit l hq21 hp_this) q9_22 q1_12 ykX13_digit q9_19 q9_21 qp_b88da61f hp_this.1 rfl ⟨rfl, rfl⟩ ⟨Nat.le_of_ble_eq_true rfl, Nat.le_of_ble_eq_true rfl⟩ rfl hl.1 rfl (Nat.le_of_ble_eq_true rfl) dX13_command_21 ⟨Nat.le_of_ble_eq_true rfl, Nat.le_of_ble_eq_true rfl⟩ (fun r w21 H locs hM hw => ?_)
    obtain ⟨hr, hn_this, hfr⟩ := hw
    rw [hr]
    have hp_this := hn_this
    have hF := hF.tr (hfr.wide (by omega) (by omega))
    refine lv_istore (lv' := [(5, .int q21.1), (4, .int 0), (3, .int 0), (2, .int 0), (1, .int q1.1), (0, .ref b)]) hx hb dX13_command_24 hl (by decide) rfl (fun ls hl => ?_)
    obtain ⟨q26, hq26, hf⟩ := mm_bd hf
    have B26 : ∀ (X : Int32 × Int32), f_X13_command_B26 text q21.2.1 endP q21.2.2 q1.1 = some X → (∀ (w9 : va_W) (H : Heap) (locs : List Loc), mm_S G A s.heap w9 H locs → At13 G w9 b thrown changes errorAt failedAt isSaved v before saved past far scratch best thenX thenY thenMet text line q1.2.1 words wordAt textN X.1 endP lineN X.2 isDoing → mm_fr w w9 b (b + 13) → ∀ (ls : Array Slot), lv_has ls 8 [(0, .ref b), (1, .int q1.1), (2, .int 0), (3, .int 0), (4, .int 0), (5, .int q21.1)] → W p l e ({ frames := 6, cells := 0, slots := 0, locals := 136 } : Room) s m args below meth c H locs 0 0 Q (F0 m 37 ls [])) → W p l e ({ frames := 6, cells := 0, slots := 0, locals := 136 } : Room) s m args below meth c H locs 0 0 Q (F0 m 26 ls []) := by
      intro X hf hk
      rw [f_X13_command_B26] at hf
      refine lv_iload_n hx hb dX13_command_26 rfl (lv_at hl 4 rfl) ?_
      refine lv_iconst (v := 3) hx hb dX13_command_27 (by decide) ?_
      refine lv_icmp_ne (tgt := 37) hx hb dX13_command_28 (by decide) (fun hcd => ?_) (fun hcd => ?_)
      · rw [if_neg hcd] at hf
        cases hf
        exact hk _ _ _ hM hp_this hF _ (lv_sub hl [5, 4, 3, 2, 1, 0] rfl)
      · rw [if_pos hcd] at hf
        refine lv_aload_n hx hb dX13_command_31 rfl (lv_at hl 5 rfl) ?_
        refine lv_bipush (v := 61) hx hb dX13_command_32 (by decide) ?_
        obtain ⟨q34, hq34, hf⟩ := mm_bd hf
        refine mm_Vv (rest := []) hC hM (c_X13_mark l hq34 hp_this) q9_26 q1_12 ykX13_mark q9_23 q9_25 qp_9eb5c321 hp_this.1 rfl ⟨rfl, rfl⟩ ⟨Nat.le_of_ble_eq_true rfl, Nat.le_of_ble_eq_true rfl⟩ rfl hl.1 rfl (Nat.le_of_ble_eq_true rfl) dX13_command_34 ⟨Nat.le_of_ble_eq_true rfl, Nat.le_of_ble_eq_true rfl⟩ (fun w34 H locs hM hw => ?_)
        obtain ⟨hn_this, hfr⟩ := hw
        have hp_this := hn_this
        have hF := hF.tr (hfr.wide (by omega) (by omega))
        cases hf
        exact hk _ _ _ hM hp_this hF _ (lv_sub hl [5, 4, 3, 2, 1, 0] rfl)
    refine B26 _ hq26 (fun w26 H locs hM hp_this hF ls hl => ?_)
    obtain ⟨q37, hq37, hf⟩ := mm_bd hf
    have B37 : ∀ (X : Int32 × Int32), f_X13_command_B37 text q26.1 endP q26.2 q1.1 = some X → (∀ (w9 : va_W) (H : Heap) (locs : List Loc), mm_S G A s.heap w9 H locs → At13 G w9 b thrown changes errorAt failedAt isSaved v before saved past far scratch best thenX thenY thenMet text line q1.2.1 words wordAt textN X.1 endP lineN X.2 isDoing → mm_fr w w9 b (b + 13) → ∀ (ls : Array Slot), lv_has ls 8 [(0, .ref b), (1, .int q1.1), (2, .int 0), (3, .int 0), (4, .int 0), (5, .int q21.1)] → W p l e ({ frames := 6, cells := 0, slots := 0, locals := 136 } : Room) s m args below meth c H locs 0 0 Q (F0 m 49 ls [])) → W p l e ({ frames := 6, cells := 0, slots := 0, locals := 136 } : Room) s m args below meth c H locs 0 0 Q (F0 m 37 ls []) := by
      intro X hf hk
      rw [f_X13_command_B37] at hf
      refine lv_iload_n hx hb dX13_command_37 rfl (lv_at hl 1 rfl) ?_
      refine lv_bipush (v := 7) hx hb dX13_command_38 (by decide) ?_
      refine lv_icmp_ne (tgt := 49) hx hb dX13_command_40 (by decide) (fun hcd => ?_) (fun hcd => ?_)
      · rw [if_neg hcd] at hf
        cases hf
        exact hk _ _ _ hM hp_this hF _ (lv_sub hl [0, 1, 2, 3, 4, 5] rfl)
      · rw [if_pos hcd] at hf
        refine lv_aload_n hx hb dX13_command_43 rfl (lv_at hl 0 rfl) ?_
        refine lv_bipush (v := 32) hx hb dX13_command_44 (by decide) ?_
        obtain ⟨q46, hq46, hf⟩ := mm_bd hf
        refine mm_Vv (rest := []) hC hM (c_X13_mark l hq46 hp_this) q9_26 q1_12 ykX13_mark q9_23 q9_25 qp_9eb5c321 hp_this.1 rfl ⟨rfl, rfl⟩ ⟨Nat.le_of_ble_eq_true rfl, Nat.le_of_ble_eq_true rfl⟩ rfl hl.1 rfl (Nat.le_of_ble_eq_true rfl) dX13_command_46 ⟨Nat.le_of_ble_eq_true rfl, Nat.le_of_ble_eq_true rfl⟩ (fun w46 H locs hM hw => ?_)
        obtain ⟨hn_this, hfr⟩ := hw
        have hp_this := hn_this
        have hF := hF.tr (hfr.wide (by omega) (by omega))
        cases hf
        exact hk _ _ _ hM hp_this hF _ (lv_sub hl [0, 1, 2, 3, 4, 5] rfl)
    refine B37 _ hq37 (fun w37 H locs hM hp_this hF ls hl => ?_)
    obtain ⟨q49, hq49, hf⟩ := mm_bd hf
    have B49 : ∀ (X : Int32 × Int32), f_X13_command_B49 text q37.1 endP q37.2 q1.1 = some X → (∀ (w9 : va_W) (H : Heap) (locs : List Loc), mm_S G A s.heap w9 H locs → At13 G w9 b thrown changes errorAt failedAt isSaved v before saved past far scratch best thenX thenY thenMet text line q1.2.1 words wordAt textN X.1 endP lineN X.2 isDoing → mm_fr w w9 b (b + 13) → ∀ (ls : Array Slot), lv_has ls 8 [(0, .ref b), (1, .int q1.1), (2, .int 0), (3, .int 0), (4, .int 0), (5, .int q21.1)] → W p l e ({ frames := 6, cells := 0, slots := 0, locals := 136 } : Room) s m args below meth c H locs 0 0 Q (F0 m 61 ls [])) → W p l e ({ frames := 6, cells := 0, slots := 0, locals := 136 } : Room) s m args below meth c H locs 0 0 Q (F0 m 49 ls []) := by
      intro X hf hk
      rw [f_X13_command_B49] at hf
      refine lv_iload_n hx hb dX13_command_49 rfl (lv_at hl 1 rfl) ?_
      refine lv_bipush (v := 8) hx hb dX13_command_50 (by decide) ?_
      refine lv_icmp_ne (tgt := 61) hx hb dX13_command_52 (by decide) (fun hcd => ?_) (fun hcd => ?_)
      · rw [if_neg hcd] at hf
        cases hf
        exact hk _ _ _ hM hp_this hF _ (lv_sub hl [0, 1, 2, 3, 4, 5] rfl)
      · rw [if_pos hcd] at hf
        refine lv_aload_n hx hb dX13_command_55 rfl (lv_at hl 0 rfl) ?_
        refine lv_bipush (v := 62) hx hb dX13_command_56 (by decide) ?_
        obtain ⟨q58, hq58, hf⟩ := mm_bd hf
        refine mm_Vv (rest := []) hC hM (c_X13_mark l hq58 hp_this) q9_26 q1_12 ykX13_mark q9_23 q9_25 qp_9eb5c321 hp_this.1 rfl ⟨rfl, rfl⟩ ⟨Nat.le_of_ble_eq_true rfl, Nat.le_of_ble_eq_true rfl⟩ rfl hl.1 rfl (Nat.le_of_ble_eq_true rfl) dX13_command_58 ⟨Nat.le_of_ble_eq_true rfl, Nat.le_of_ble_eq_true rfl⟩ (fun w58 H locs hM hw => ?_)
        obtain ⟨hn_this, hfr⟩ := hw
        have hp_this := hn_this
        have hF := hF.tr (hfr.wide (by omega) (by omega))
        cases hf
        exact hk _ _ _ hM hp_this hF _ (lv_sub hl [0, 1, 2, 3, 4, 5] rfl)
    refine B49 _ hq49 (fun w49 H locs hM hp_this hF ls hl => ?_)
    obtain ⟨q61, hq61, hf⟩ := mm_bd hf
    have B61 : ∀ (X : Int32 × Int32 × Int32), f_X13_command_B61 text q49.1 endP q49.2 q1.1 0 = some X → (∀ (w9 : va_W) (H : Heap) (locs : List Loc), mm_S G A s.heap w9 H locs → At13 G w9 b thrown changes errorAt failedAt isSaved v before saved past far scratch best thenX thenY thenMet text line q1.2.1 words wordAt textN X.2.1 endP lineN X.2.2 isDoing → mm_fr w w9 b (b + 13) → ∀ (ls : Array Slot), lv_has ls 8 [(0, .ref b), (1, .int q1.1), (2, .int X.1), (3, .int 0), (4, .int 0), (5, .int q21.1)] → W p l e ({ frames := 6, cells := 0, slots := 0, locals := 136 } : Room) s m args below meth c H locs 0 0 Q (F0 m 83 ls [])) → W p l e ({ frames := 6, cells := 0, slots := 0, locals := 136 } : Room) s m args below meth c H locs 0 0 Q (F0 m 61 ls []) := by
      intro X hf hk
      rw [f_X13_command_B61] at hf
      refine lv_iload_n hx hb dX13_command_61 rfl (lv_at hl 1 rfl) ?_
      refine lv_iconst (v := 3) hx hb dX13_command_62 (by decide) ?_
      refine lv_icmp_eq (tgt := 83) hx hb dX13_command_63 (by decide) (fun hcd => ?_) (fun hcd => ?_)
      · rw [if_pos hcd] at hf
        cases hf
        exact hk _ _ _ hM hp_this hF _ (lv_sub hl [0, 1, 2, 3, 4, 5] rfl)
      · rw [if_neg hcd] at hf
        refine lv_iload_n hx hb dX13_command_66 rfl (lv_at hl 1 rfl) ?_
        refine lv_bipush (v := 6) hx hb dX13_command_67 (by decide) ?_
        refine lv_icmp_eq (tgt := 83) hx hb dX13_command_69 (by decide) (fun hcd => ?_) (fun hcd => ?_)
        · rw [if_pos hcd] at hf
          cases hf
          exact hk _ _ _ hM hp_this hF _ (lv_sub hl [0, 1, 2, 3, 4, 5] rfl)
        · rw [if_neg hcd] at hf
          refine lv_iload_n hx hb dX13_command_72 rfl (lv_at hl 1 rfl) ?_
          refine lv_bipush (v := 10) hx hb dX13_command_73 (by decide) ?_
          refine lv_icmp_eq (tgt := 83) hx hb dX13_command_75 (by decide) (fun hcd => ?_) (fun hcd => ?_)
          · rw [if_pos hcd] at hf
            cases hf
            exact hk _ _ _ hM hp_this hF _ (lv_sub hl [0, 1, 2, 3, 4, 5] rfl)
          · rw [if_neg hcd] at hf
            refine lv_aload_n hx hb dX13_command_78 rfl (lv_at hl 0 rfl) ?_
            obtain ⟨q79, hq79, hf⟩ := mm_bd hf
            refine mm_Vi (rest := []) hC hM (c_X13_digit l hq79 hp_this) q9_22 q1_12 ykX13_digit q9_19 q9_21 qp_b88da61f hp_this.1 rfl ⟨rfl, rfl⟩ ⟨Nat.le_of_ble_eq_true rfl, Nat.le_of_ble_eq_true rfl⟩ rfl hl.1 rfl (Nat.le_of_ble_eq_true rfl) dX13_command_79 ⟨Nat.le_of_ble_eq_true rfl, Nat.le_of_ble_eq_true rfl⟩ (fun r w79 H locs hM hw => ?_)
            obtain ⟨hr, hn_this, hfr⟩ := hw
            rw [hr]
            have hp_this := hn_this
            have hF := hF.tr (hfr.wide (by omega) (by omega))
            refine lv_istore_n (lv' := [(2, .int q79.1), (0, .ref b), (1, .int q1.1), (3, .int 0), (4, .int 0), (5, .int q21.1)]) hx hb dX13_command_82 rfl hl (by decide) rfl (fun ls hl => ?_)
            cases hf
            exact hk _ _ _ hM hp_this hF _ (lv_sub hl [1, 2, 0, 3, 4, 5] rfl)
    refine B61 _ hq61 (fun w61 H locs hM hp_this hF ls hl => ?_)
    obtain ⟨q83, hq83, hf⟩ := mm_bd hf
    have B83 : ∀ (X : Int32 × Int32 × Int32 × Int32), f_X13_command_B83 text q61.2.1 endP q61.2.2 q1.1 0 0 = some X → (∀ (w9 : va_W) (H : Heap) (locs : List Loc), mm_S G A s.heap w9 H locs → At13 G w9 b thrown changes errorAt failedAt isSaved v before saved past far scratch best thenX thenY thenMet text line q1.2.1 words wordAt textN X.2.2.1 endP lineN X.2.2.2 isDoing → mm_fr w w9 b (b + 13) → ∀ (ls : Array Slot), lv_has ls 8 [(0, .ref b), (1, .int q1.1), (2, .int q61.1), (3, .int X.1), (4, .int X.2.1), (5, .int q21.1)] → W p l e ({ frames := 6, cells := 0, slots := 0, locals := 136 } : Room) s m args below meth c H locs 0 0 Q (F0 m 106 ls [])) → W p l e ({ frames := 6, cells := 0, slots := 0, locals := 136 } : Room) s m args below meth c H locs 0 0 Q (F0 m 83 ls []) := by
      intro X hf hk
      rw [f_X13_command_B83] at hf
      refine lv_iload_n hx hb dX13_command_83 rfl (lv_at hl 1 rfl) ?_
      refine lv_bipush (v := 8) hx hb dX13_command_84 (by decide) ?_
      refine lv_icmp_ne (tgt := 106) hx hb dX13_command_86 (by decide) (fun hcd => ?_) (fun hcd => ?_)
      · rw [if_neg hcd] at hf
        cases hf
        exact hk _ _ _ hM hp_this hF _ (lv_sub hl [0, 1, 2, 3, 4, 5] rfl)
      · rw [if_pos hcd] at hf
        refine lv_aload_n hx hb dX13_command_89 rfl (lv_at hl 0 rfl) ?_
        obtain ⟨q90, hq90, hf⟩ := mm_bd hf
        refine mm_Vi (rest := []) hC hM (c_X13_digit l hq90 hp_this) q9_22 q1_12 ykX13_digit q9_19 q9_21 qp_b88da61f hp_this.1 rfl ⟨rfl, rfl⟩ ⟨Nat.le_of_ble_eq_true rfl, Nat.le_of_ble_eq_true rfl⟩ rfl hl.1 rfl (Nat.le_of_ble_eq_true rfl) dX13_command_90 ⟨Nat.le_of_ble_eq_true rfl, Nat.le_of_ble_eq_true rfl⟩ (fun r w90 H locs hM hw => ?_)
        obtain ⟨hr, hn_this, hfr⟩ := hw
        rw [hr]
        have hp_this := hn_this
        have hF := hF.tr (hfr.wide (by omega) (by omega))
        refine lv_istore_n (lv' := [(3, .int q90.1), (0, .ref b), (1, .int q1.1), (2, .int q61.1), (4, .int 0), (5, .int q21.1)]) hx hb dX13_command_93 rfl hl (by decide) rfl (fun ls hl => ?_)
        refine lv_aload_n hx hb dX13_command_94 rfl (lv_at hl 1 rfl) ?_
        refine lv_bipush (v := 32) hx hb dX13_command_95 (by decide) ?_
        obtain ⟨q97, hq97, hf⟩ := mm_bd hf
        refine mm_Vv (rest := []) hC hM (c_X13_mark l hq97 hp_this) q9_26 q1_12 ykX13_mark q9_23 q9_25 qp_9eb5c321 hp_this.1 rfl ⟨rfl, rfl⟩ ⟨Nat.le_of_ble_eq_true rfl, Nat.le_of_ble_eq_true rfl⟩ rfl hl.1 rfl (Nat.le_of_ble_eq_true rfl) dX13_command_97 ⟨Nat.le_of_ble_eq_true rfl, Nat.le_of_ble_eq_true rfl⟩ (fun w97 H locs hM hw => ?_)
        obtain ⟨hn_this, hfr⟩ := hw
        have hp_this := hn_this
        have hF := hF.tr (hfr.wide (by omega) (by omega))
        refine lv_aload_n hx hb dX13_command_100 rfl (lv_at hl 1 rfl) ?_
        obtain ⟨q101, hq101, hf⟩ := mm_bd hf
        refine mm_Vi (rest := []) hC hM (c_X13_digit l hq101 hp_this) q9_22 q1_12 ykX13_digit q9_19 q9_21 qp_b88da61f hp_this.1 rfl ⟨rfl, rfl⟩ ⟨Nat.le_of_ble_eq_true rfl, Nat.le_of_ble_eq_true rfl⟩ rfl hl.1 rfl (Nat.le_of_ble_eq_true rfl) dX13_command_101 ⟨Nat.le_of_ble_eq_true rfl, Nat.le_of_ble_eq_true rfl⟩ (fun r w101 H locs hM hw => ?_)
        obtain ⟨hr, hn_this, hfr⟩ := hw
        rw [hr]
        have hp_this := hn_this
        have hF := hF.tr (hfr.wide (by omega) (by omega))
        refine lv_istore (lv' := [(4, .int q101.1), (3, .int q90.1), (0, .ref b), (1, .int q1.1), (2, .int q61.1), (5, .int q21.1)]) hx hb dX13_command_104 hl (by decide) rfl (fun ls hl => ?_)
        cases hf
        exact hk _ _ _ hM hp_this hF _ (lv_sub hl [2, 3, 4, 1, 0, 5] rfl)
    refine B83 _ hq83 (fun w83 H locs hM hp_this hF ls hl => ?_)
    refine lv_aload_n hx hb dX13_command_106 rfl (lv_at hl 0 rfl) ?_
    refine mm_get hC hM (k := 21) hp_this.1 rfl inAX13 (by decide) q7_26 rfl dX13_command_107 ?_
    refine lv_istore (lv' := [(6, .int q83.2.2.1), (0, .ref b), (1, .int q1.1), (2, .int q61.1), (3, .int q83.1), (4, .int q83.2.1), (5, .int q21.1)]) hx hb dX13_command_110 hl (by decide) rfl (fun ls hl => ?_)
    have L112 : ∀ (n : Nat) (L112_hereP : Int32) (X : Int32), f_X13_command_L112 text endP q83.2.2.2 q1.1 n L112_hereP = some X → ∀ (L112_w : va_W) (H : Heap) (locs : List Loc), mm_S G A s.heap L112_w H locs → At13 G L112_w b thrown changes errorAt failedAt isSaved v before saved past far scratch best thenX thenY thenMet text line q1.2.1 words wordAt textN L112_hereP endP lineN q83.2.2.2 isDoing → mm_fr w L112_w b (b + 13) → ∀ (ls : Array Slot), lv_has ls 8 [(0, .ref b), (1, .int q1.1), (2, .int q61.1), (3, .int q83.1), (4, .int q83.2.1), (5, .int q21.1), (6, .int q83.2.2.1)] → (∀ (w9 : va_W) (H : Heap) (locs : List Loc), mm_S G A s.heap w9 H locs → At13 G w9 b thrown changes errorAt failedAt isSaved v before saved past far scratch best thenX thenY thenMet text line q1.2.1 words wordAt textN X endP lineN q83.2.2.2 isDoing → mm_fr w w9 b (b + 13) → ∀ (ls : Array Slot), lv_has ls 8 [(0, .ref b), (1, .int q1.1), (2, .int q61.1), (3, .int q83.1), (4, .int q83.2.1), (5, .int q21.1), (6, .int q83.2.2.1)] → W p l e ({ frames := 6, cells := 0, slots := 0, locals := 136 } : Room) s m args below meth c H locs 0 0 Q (F0 m 147 ls [])) → W p l e ({ frames := 6, cells := 0, slots := 0, locals := 136 } : Room) s m args below meth c H locs 0 0 Q (F0 m 112 ls []) := by
      intro n
      induction n with
      | zero => intro L112_hereP X hf; cases hf
      | succ n ih =>
        intro L112_hereP X hf L112_w H locs hM hp_this hF ls hl hk
        rw [f_X13_command_L112] at hf
        refine lv_iload_n hx hb dX13_command_112 rfl (lv_at hl 1 rfl) ?_
        refine lv_iconst (v := 3) hx hb dX13_command_113 (by decide) ?_
        refine lv_icmp_ne (tgt := 147) hx hb dX13_command_114 (by decide) (fun hcd => ?_) (fun hcd => ?_)
        · rw [if_neg hcd] at hf
          cases hf
          exact hk _ _ _ hM hp_this hF _ (lv_sub hl [0, 1, 2, 3, 4, 5, 6] rfl)
        · rw [if_pos hcd] at hf
          refine lv_aload_n hx hb dX13_command_117 rfl (lv_at hl 0 rfl) ?_
          refine mm_get hC hM (k := 24) hp_this.1 rfl inAX13 (by decide) q7_29 rfl dX13_command_118 ?_
          refine lv_if_ne (tgt := 147) hx hb dX13_command_121 (by decide) (fun hcd => ?_) (fun hcd => ?_)
          · rw [if_neg hcd] at hf
            cases hf
            exact hk _ _ _ hM hp_this hF _ (lv_sub hl [0, 1, 2, 3, 4, 5, 6] rfl)
          · rw [if_pos hcd] at hf
            refine lv_aload_n hx hb dX13_command_124 rfl (lv_at hl 0 rfl) ?_
            obtain ⟨q125, hq125, hf⟩ := mm_bd hf
            refine mm_Vi (rest := []) hC hM (c_X13_sign l hq125 hp_this) q9_18 q1_12 ykX13_sign q9_15 q9_17 qp_38a196e3 hp_this.1 rfl ⟨rfl, rfl⟩ ⟨Nat.le_of_ble_eq_true rfl, Nat.le_of_ble_eq_true rfl⟩ rfl hl.1 rfl (Nat.le_of_ble_eq_true rfl) dX13_command_125 ⟨Nat.le_of_ble_eq_true rfl, Nat.le_of_ble_eq_true rfl⟩ (fun r w125 H locs hM hw => ?_)
            obtain ⟨hr, hw⟩ := hw
            rw [hr]
            rw [hw] at hM
            obtain ⟨q128, hq128, hf⟩ := mm_bd hf
            refine mm_Si (rest := []) hC hM (c_X13_move l hq128) q8_21 q1_12 ykX13_move q8_19 q8_20 ⟨rfl, rfl⟩ ⟨Nat.le_of_ble_eq_true rfl, Nat.le_of_ble_eq_true rfl⟩ rfl hl.1 rfl (Nat.le_of_ble_eq_true rfl) dX13_command_128 ⟨Nat.le_of_ble_eq_true rfl, Nat.le_of_ble_eq_true rfl⟩ (fun r w128 H locs hM hw => ?_)
            obtain ⟨hr, hw⟩ := hw
            rw [hr]
            rw [hw] at hM
            refine lv_if_lt (tgt := 147) hx hb dX13_command_131 (by decide) (fun hcd => ?_) (fun hcd => ?_)
            · rw [if_pos hcd] at hf
              cases hf
              exact hk _ _ _ hM hp_this hF _ (lv_sub hl [0, 1, 2, 3, 4, 5, 6] rfl)
            · rw [if_neg hcd] at hf
              refine lv_aload_n hx hb dX13_command_134 rfl (lv_at hl 0 rfl) ?_
              refine lv_dup hx hb dX13_command_135 rfl ?_
              refine mm_get hC hM (k := 21) hp_this.1 rfl inAX13 (by decide) q7_26 rfl dX13_command_136 ?_
              refine lv_iconst (v := 1) hx hb dX13_command_139 (by decide) ?_
              refine lv_iadd hx hb dX13_command_140 ?_
              refine mm_put hC hM (k := 21) tyX13 hp_this.1 rfl inAX13 tyX13_ok nmX13 (by decide) q7_26 rfl rfl rfl rfl (Nat.le_of_ble_eq_true rfl) dX13_command_141 (fun w141 H locs hM hm => ?_)
              have hp_this : At13 G w141 b thrown changes errorAt failedAt isSaved v before saved past far scratch best thenX thenY thenMet text line q1.2.1 words wordAt textN (L112_hereP + 1) endP lineN q83.2.2.2 isDoing := ⟨hm.1, hm.keep (hp_this.2.1) (by omega), hm.keep (hp_this.2.2.1) (by omega), hm.keep (hp_this.2.2.2.1) (by omega), hm.keep (hp_this.2.2.2.2.1) (by omega), hm.keep (hp_this.2.2.2.2.2.1) (by omega), hm.keep (hp_this.2.2.2.2.2.2.1) (by omega), hm.keep (hp_this.2.2.2.2.2.2.2.1) (by omega), hm.keep (hp_this.2.2.2.2.2.2.2.2.1) (by omega), hm.keep (hp_this.2.2.2.2.2.2.2.2.2.1) (by omega), hm.keep (hp_this.2.2.2.2.2.2.2.2.2.2.1) (by omega), hm.keep (hp_this.2.2.2.2.2.2.2.2.2.2.2.1) (by omega), hm.keep (hp_this.2.2.2.2.2.2.2.2.2.2.2.2) (by omega)⟩
              have hF := hF.tr (hm.fr (by omega) (by omega))
              refine lv_goto (tgt := 112) hx hb dX13_command_144 (by decide) ?_
              exact ih _ _ hf _ _ _ hM hp_this hF _ (lv_sub hl [0, 1, 2, 3, 4, 5, 6] rfl) hk
    obtain ⟨q112, hq112, hf⟩ := mm_bd hf
    refine L112 K _ _ hq112 _ _ _ hM hp_this hF _ (lv_sub hl [1, 2, 3, 4, 5, 6, 0] rfl) (fun w112 H locs hM hp_this hF ls hl => ?_)
    refine lv_aload_n hx hb dX13_command_147 rfl (lv_at hl 0 rfl) ?_
    refine mm_get hC hM (k := 24) hp_this.1 rfl inAX13 (by decide) q7_29 rfl dX13_command_148 ?_
    refine lv_if_ne (tgt := 161) hx hb dX13_command_151 (by decide) (fun hcd => ?_) (fun hcd => ?_)
    · rw [if_neg hcd] at hf
      cases hf
      exact hret hM dX13_command_161 ⟨hp_this, hF⟩
    · rw [if_pos hcd] at hf
      refine lv_aload_n hx hb dX13_command_154 rfl (lv_at hl 0 rfl) ?_
      refine mm_get hC hM (k := 25) hp_this.1 rfl inAX13 (by decide) q7_30 rfl dX13_command_155 ?_
      refine lv_if_ne (tgt := 162) hx hb dX13_command_158 (by decide) (fun hcd => ?_) (fun hcd => ?_)
      · rw [if_neg hcd] at hf
        refine lv_iload_n hx hb dX13_command_162 rfl (lv_at hl 1 rfl) ?_
        refine lv_bipush (v := 8) hx hb dX13_command_163 (by decide) ?_
        refine lv_icmp_ne (tgt := 185) hx hb dX13_command_165 (by decide) (fun hcd => ?_) (fun hcd => ?_)
        · rw [if_neg hcd] at hf
          refine lv_aload_n hx hb dX13_command_185 rfl (lv_at hl 0 rfl) ?_
          refine lv_iload_n hx hb dX13_command_186 rfl (lv_at hl 1 rfl) ?_
          refine lv_iload hx hb dX13_command_187 (lv_at hl 5 rfl) ?_
          refine lv_iload_n hx hb dX13_command_189 rfl (lv_at hl 2 rfl) ?_
          refine lv_iload hx hb dX13_command_190 (lv_at hl 6 rfl) ?_
          obtain ⟨q192, hq192, hf⟩ := mm_bd hf
          refine mm_Vi (rest := []) hC hM (c_X13_does l hq192 hp_this) q9_30 q1_12 ykX13_does q9_27 q9_29 qp_697c7284 hp_this.1 rfl ⟨rfl, rfl⟩ ⟨Nat.le_of_ble_eq_true rfl, Nat.le_of_ble_eq_true rfl⟩ rfl hl.1 rfl (Nat.le_of_ble_eq_true rfl) dX13_command_192 ⟨Nat.le_of_ble_eq_true rfl, Nat.le_of_ble_eq_true rfl⟩ (fun r w192 H locs hM hw => ?_)
          obtain ⟨hr, hn_this, hfr⟩ := hw
          rw [hr]
          have hp_this := hn_this
          have hF := hF.tr (hfr.wide (by omega) (by omega))
          refine lv_istore (lv' := [(7, .int q192.1), (0, .ref b), (1, .int q1.1), (2, .int q61.1), (3, .int q83.1), (4, .int q83.2.1), (5, .int q21.1), (6, .int q83.2.2.1)]) hx hb dX13_command_195 hl (by decide) rfl (fun ls hl => ?_)
          cases hf
          exact hret hM dX13_command_197 ⟨hp_this, hF⟩
        · rw [if_pos hcd] at hf
          refine lv_aload_n hx hb dX13_command_168 rfl (lv_at hl 0 rfl) ?_
          refine lv_aload_n hx hb dX13_command_169 rfl (lv_at hl 0 rfl) ?_
          refine lv_iload hx hb dX13_command_170 (lv_at hl 5 rfl) ?_
          obtain ⟨q172, hq172, hf⟩ := mm_bd hf
          refine mm_Vi (rest := [.ref b]) hC hM (c_X13_find l hq172 hp_this) q7_218 q1_12 ykX13_find q7_215 q7_217 qp_0f7fdc43 hp_this.1 rfl ⟨rfl, rfl⟩ ⟨Nat.le_of_ble_eq_true rfl, Nat.le_of_ble_eq_true rfl⟩ rfl hl.1 rfl (Nat.le_of_ble_eq_true rfl) dX13_command_172 ⟨Nat.le_of_ble_eq_true rfl, Nat.le_of_ble_eq_true rfl⟩ (fun r w172 H locs hM hw => ?_)
          obtain ⟨hr, hw⟩ := hw
          rw [hr]
          rw [hw] at hM
          refine lv_iload_n hx hb dX13_command_175 rfl (lv_at hl 2 rfl) ?_
          refine lv_iload_n hx hb dX13_command_176 rfl (lv_at hl 3 rfl) ?_
          refine lv_iload hx hb dX13_command_177 (lv_at hl 4 rfl) ?_
          obtain ⟨q179, hq179, hf⟩ := mm_bd hf
          refine mm_Vi (rest := []) hC hM (c_X13_plans l hq179 hp_this) q8_162 q1_12 ykX13_plans q8_159 q8_161 qp_546f3ee3 hp_this.1 rfl ⟨rfl, rfl⟩ ⟨Nat.le_of_ble_eq_true rfl, Nat.le_of_ble_eq_true rfl⟩ rfl hl.1 rfl (Nat.le_of_ble_eq_true rfl) dX13_command_179 ⟨Nat.le_of_ble_eq_true rfl, Nat.le_of_ble_eq_true rfl⟩ (fun r w179 H locs hM hw => ?_)
          obtain ⟨hr, hn_this, hfr⟩ := hw
          rw [hr]
          have hp_this := hn_this
          have hF := hF.tr (hfr.wide (by omega) (by omega))
          refine lv_goto (tgt := 195) hx hb dX13_command_182 (by decide) ?_
          refine lv_istore (lv' := [(7, .int q179.1), (0, .ref b), (1, .int q1.1), (2, .int q61.1), (3, .int q83.1), (4, .int q83.2.1), (5, .int q21.1), (6, .int q83.2.2.1)]) hx hb dX13_command_195 hl (by decide) rfl (fun ls hl => ?_)
          cases hf
          exact hret hM dX13_command_197 ⟨hp_this, hF⟩
      · rw [if_pos hcd] at hf
        cases hf
        exact hret hM dX13_command_161 ⟨hp_this, hF⟩
  · rw [if_neg hcd] at hf
    cases hf
    exact hret hM dX13_command_19 ⟨hp_this, hF⟩
def f_X13_commands_L16 (K : Nat) (text : Nat → Int32) (words : Nat → Int32) (wordAt : Nat → Int32) (endP : Int32) (isDoing : Int32) : Nat → (Int32) → (Int32) → (Nat → Int32) → (Nat → Int32) → (Nat → Int32) → (Int32) → (Int32) → (Int32) → (Nat → Int32) → (Int32) → (Int32) → Option (Int32 × Int32 × (Nat → Int32) × (Nat → Int32) × (Nat → Int32) × Int32 × Int32 × Int32 × (Nat → Int32) × Int32 × Int32)
  | 0, _, _, _, _, _, _, _, _, _, _, _ => none
  | n + 1, x1, thrown, v, far, scratch, thenX, thenY, thenMet, isLeft, hereP, isWrong => if isWrong = 0 then if thrown = 0 then if endP ≤ hereP then some (x1, thrown, v, far, scratch, thenX, thenY, thenMet, isLeft, hereP, isWrong) else (f_X13_mark text hereP endP isWrong 59).bind fun q44 => if q44.2 = 0 then (f_X13_command K thrown v far scratch thenX thenY thenMet text isLeft words wordAt q44.1 endP q44.2 isDoing).bind fun q55 => f_X13_commands_L16 K text words wordAt endP isDoing n (x1 + 1) q55.1 q55.2.1 q55.2.2.1 q55.2.2.2.1 q55.2.2.2.2.1 q55.2.2.2.2.2.1 q55.2.2.2.2.2.2.1 q55.2.2.2.2.2.2.2.1 q55.2.2.2.2.2.2.2.2.1 q55.2.2.2.2.2.2.2.2.2 else f_X13_commands_L16 K text words wordAt endP isDoing n (x1 + 1) thrown v far scratch thenX thenY thenMet isLeft q44.1 q44.2 else some (x1, thrown, v, far, scratch, thenX, thenY, thenMet, isLeft, hereP, isWrong) else some (x1, thrown, v, far, scratch, thenX, thenY, thenMet, isLeft, hereP, isWrong)
def f_X13_commands (K : Nat) (thrown : Int32) (v : Nat → Int32) (far : Nat → Int32) (scratch : Nat → Int32) (thenX : Int32) (thenY : Int32) (thenMet : Int32) (text : Nat → Int32) (isLeft : Nat → Int32) (words : Nat → Int32) (wordAt : Nat → Int32) (endP : Int32) (isDoing : Int32) : Option (Int32 × Int32 × (Nat → Int32) × (Nat → Int32) × (Nat → Int32) × Int32 × Int32 × Int32 × (Nat → Int32) × Int32 × Int32) := (f_X13_command K thrown v far scratch thenX thenY thenMet text isLeft words wordAt 0 endP 0 isDoing).bind fun q13 => (f_X13_commands_L16 K text words wordAt endP isDoing K 1 q13.1 q13.2.1 q13.2.2.1 q13.2.2.2.1 q13.2.2.2.2.1 q13.2.2.2.2.2.1 q13.2.2.2.2.2.2.1 q13.2.2.2.2.2.2.2.1 q13.2.2.2.2.2.2.2.2.1 q13.2.2.2.2.2.2.2.2.2).bind fun q16 => some (q16.1, q16.2.1, q16.2.2.1, q16.2.2.2.1, q16.2.2.2.2.1, q16.2.2.2.2.2.1, q16.2.2.2.2.2.2.1, q16.2.2.2.2.2.2.2.1, q16.2.2.2.2.2.2.2.2.1, q16.2.2.2.2.2.2.2.2.2.1, q16.2.2.2.2.2.2.2.2.2.2)
set_option maxHeartbeats 4000000 in
set_option maxRecDepth 100000 in
theorem c_X13_commands (l : Launch) {G : mm_G} {K : Nat} {w : va_W} {sz : Nat} {b : Nat} {thrown : Int32} {changes : Int32} {errorAt : Int32} {failedAt : Int32} {isSaved : Int32} {v : Nat → Int32} {before : Nat → Int32} {saved : Nat → Int32} {past : Nat → Int32} {far : Nat → Int32} {scratch : Nat → Int32} {best : Nat → Int32} {thenX : Int32} {thenY : Int32} {thenMet : Int32} {text : Nat → Int32} {line : Nat → Int32} {isLeft : Nat → Int32} {words : Nat → Int32} {wordAt : Nat → Int32} {textN : Int32} {hereP : Int32} {endP : Int32} {lineN : Int32} {isWrong : Int32} {isDoing : Int32} {X : Int32 × Int32 × (Nat → Int32) × (Nat → Int32) × (Nat → Int32) × Int32 × Int32 × Int32 × (Nat → Int32) × Int32 × Int32} (hf : f_X13_commands K thrown v far scratch thenX thenY thenMet text isLeft words wordAt endP isDoing = some X) (hp_this : At13 G w b thrown changes errorAt failedAt isSaved v before saved past far scratch best thenX thenY thenMet text line isLeft words wordAt textN hereP endP lineN isWrong isDoing) : Met l yX13_commands (Cond.code yX13_commands cX13_commands 2 (some .int) :: gAll) ({ frames := 7, cells := 0, slots := 0, locals := 163 }) (va_Pc [.ref b] (mm_Pre G w sz)) (mm_Qi G w sz (fun r w' => r = X.1 ∧ At13 G w' b X.2.1 changes errorAt failedAt isSaved X.2.2.1 before saved past X.2.2.2.1 X.2.2.2.2.1 best X.2.2.2.2.2.1 X.2.2.2.2.2.2.1 X.2.2.2.2.2.2.2.1 text line X.2.2.2.2.2.2.2.2.1 words wordAt textN X.2.2.2.2.2.2.2.2.2.1 endP lineN X.2.2.2.2.2.2.2.2.2.2 isDoing ∧ mm_fr w w' b (b + 13))) 0 0 (va_A w sz) := by
  refine mm_headI [.ref b] (by decide +kernel) rfl (Nat.le_of_ble_eq_true rfl) ?_
  intro p e s m args below meth c A Q hsz hC hM hret ls hl
  have hx := hC.1.1
  have hb := hC.1.2.1
  have hl : lv_has ls 2 [(0, .ref b)] := hl
  have hF : mm_fr w w b (b + 13) := mm_fr.rf
  rw [f_X13_commands] at hf
  refine lv_aload_n hx hb dX13_commands_0 rfl (lv_at hl 0 rfl) ?_
  refine lv_iconst (v := 0) hx hb dX13_commands_1 (by decide) ?_
  refine mm_put hC hM (k := 21) tyX13 hp_this.1 rfl inAX13 tyX13_ok nmX13 (by decide) q7_26 rfl rfl rfl rfl (Nat.le_of_ble_eq_true rfl) dX13_commands_2 (fun w2 H locs hM hm => ?_)
  have hp_this : At13 G w2 b thrown changes errorAt failedAt isSaved v before saved past far scratch best thenX thenY thenMet text line isLeft words wordAt textN 0 endP lineN isWrong isDoing := ⟨hm.1, hm.keep (hp_this.2.1) (by omega), hm.keep (hp_this.2.2.1) (by omega), hm.keep (hp_this.2.2.2.1) (by omega), hm.keep (hp_this.2.2.2.2.1) (by omega), hm.keep (hp_this.2.2.2.2.2.1) (by omega), hm.keep (hp_this.2.2.2.2.2.2.1) (by omega), hm.keep (hp_this.2.2.2.2.2.2.2.1) (by omega), hm.keep (hp_this.2.2.2.2.2.2.2.2.1) (by omega), hm.keep (hp_this.2.2.2.2.2.2.2.2.2.1) (by omega), hm.keep (hp_this.2.2.2.2.2.2.2.2.2.2.1) (by omega), hm.keep (hp_this.2.2.2.2.2.2.2.2.2.2.2.1) (by omega), hm.keep (hp_this.2.2.2.2.2.2.2.2.2.2.2.2) (by omega)⟩
  have hF := hF.tr (hm.fr (by omega) (by omega))
  refine lv_aload_n hx hb dX13_commands_5 rfl (lv_at hl 0 rfl) ?_
  refine lv_iconst (v := 0) hx hb dX13_commands_6 (by decide) ?_
  refine mm_put hC hM (k := 24) tyX13 hp_this.1 rfl inAX13 tyX13_ok nmX13 (by decide) q7_29 rfl rfl rfl (by decide) (Nat.le_of_ble_eq_true rfl) dX13_commands_7 (fun w7 H locs hM hm => ?_)
  have hp_this : At13 G w7 b thrown changes errorAt failedAt isSaved v before saved past far scratch best thenX thenY thenMet text line isLeft words wordAt textN 0 endP lineN 0 isDoing := ⟨hm.1, hm.keep (hp_this.2.1) (by omega), hm.keep (hp_this.2.2.1) (by omega), hm.keep (hp_this.2.2.2.1) (by omega), hm.keep (hp_this.2.2.2.2.1) (by omega), hm.keep (hp_this.2.2.2.2.2.1) (by omega), hm.keep (hp_this.2.2.2.2.2.2.1) (by omega), hm.keep (hp_this.2.2.2.2.2.2.2.1) (by omega), hm.keep (hp_this.2.2.2.2.2.2.2.2.1) (by omega), hm.keep (hp_this.2.2.2.2.2.2.2.2.2.1) (by omega), hm.keep (hp_this.2.2.2.2.2.2.2.2.2.2.1) (by omega), hm.keep (hp_this.2.2.2.2.2.2.2.2.2.2.2.1) (by omega), hm.keep (hp_this.2.2.2.2.2.2.2.2.2.2.2.2) (by omega)⟩
  have hF := hF.tr (hm.fr (by omega) (by omega))
  refine lv_iconst (v := 1) hx hb dX13_commands_10 (by decide) ?_
  refine lv_istore_n (lv' := [(1, .int 1), (0, .ref b)]) hx hb dX13_commands_11 rfl hl (by decide) rfl (fun ls hl => ?_)
  refine lv_aload_n hx hb dX13_commands_12 rfl (lv_at hl 1 rfl) ?_
  obtain ⟨q13, hq13, hf⟩ := mm_bd hf
  refine mm_Vv (rest := []) hC hM (c_X13_command l hq13 hp_this) q9_10 q1_12 ykX13_command q9_7 q9_9 qp_1737e711 hp_this.1 rfl ⟨rfl, rfl⟩ ⟨Nat.le_of_ble_eq_true rfl, Nat.le_of_ble_eq_true rfl⟩ rfl hl.1 rfl (Nat.le_of_ble_eq_true rfl) dX13_commands_13 ⟨Nat.le_of_ble_eq_true rfl, Nat.le_of_ble_eq_true rfl⟩ (fun w13 H locs hM hw => ?_)
  obtain ⟨hn_this, hfr⟩ := hw
  have hp_this := hn_this
  have hF := hF.tr (hfr.wide (by omega) (by omega))
  have L16 : ∀ (n : Nat) (L16_x1 : Int32) (L16_thrown : Int32) (L16_v : Nat → Int32) (L16_far : Nat → Int32) (L16_scratch : Nat → Int32) (L16_thenX : Int32) (L16_thenY : Int32) (L16_thenMet : Int32) (L16_isLeft : Nat → Int32) (L16_hereP : Int32) (L16_isWrong : Int32) (X : Int32 × Int32 × (Nat → Int32) × (Nat → Int32) × (Nat → Int32) × Int32 × Int32 × Int32 × (Nat → Int32) × Int32 × Int32), f_X13_commands_L16 K text words wordAt endP isDoing n L16_x1 L16_thrown L16_v L16_far L16_scratch L16_thenX L16_thenY L16_thenMet L16_isLeft L16_hereP L16_isWrong = some X → ∀ (L16_w : va_W) (H : Heap) (locs : List Loc), mm_S G A s.heap L16_w H locs → At13 G L16_w b L16_thrown changes errorAt failedAt isSaved L16_v before saved past L16_far L16_scratch best L16_thenX L16_thenY L16_thenMet text line L16_isLeft words wordAt textN L16_hereP endP lineN L16_isWrong isDoing → mm_fr w L16_w b (b + 13) → ∀ (ls : Array Slot), lv_has ls 2 [(0, .ref b), (1, .int L16_x1)] → (∀ (w9 : va_W) (H : Heap) (locs : List Loc), mm_S G A s.heap w9 H locs → At13 G w9 b X.2.1 changes errorAt failedAt isSaved X.2.2.1 before saved past X.2.2.2.1 X.2.2.2.2.1 best X.2.2.2.2.2.1 X.2.2.2.2.2.2.1 X.2.2.2.2.2.2.2.1 text line X.2.2.2.2.2.2.2.2.1 words wordAt textN X.2.2.2.2.2.2.2.2.2.1 endP lineN X.2.2.2.2.2.2.2.2.2.2 isDoing → mm_fr w w9 b (b + 13) → ∀ (ls : Array Slot), lv_has ls 2 [(1, .int X.1)] → W p l e ({ frames := 7, cells := 0, slots := 0, locals := 163 } : Room) s m args below meth c H locs 0 0 Q (F0 m 64 ls [])) → W p l e ({ frames := 7, cells := 0, slots := 0, locals := 163 } : Room) s m args below meth c H locs 0 0 Q (F0 m 16 ls []) := by
    intro n
    induction n with
    | zero => intro L16_x1 L16_thrown L16_v L16_far L16_scratch L16_thenX L16_thenY L16_thenMet L16_isLeft L16_hereP L16_isWrong X hf; cases hf
    | succ n ih =>
      intro L16_x1 L16_thrown L16_v L16_far L16_scratch L16_thenX L16_thenY L16_thenMet L16_isLeft L16_hereP L16_isWrong X hf L16_w H locs hM hp_this hF ls hl hk
      rw [f_X13_commands_L16] at hf
      refine lv_aload_n hx hb dX13_commands_16 rfl (lv_at hl 0 rfl) ?_
      refine mm_get hC hM (k := 24) hp_this.1 rfl inAX13 (by decide) q7_29 rfl dX13_commands_17 ?_
      refine lv_if_ne (tgt := 64) hx hb dX13_commands_20 (by decide) (fun hcd => ?_) (fun hcd => ?_)
      · rw [if_neg hcd] at hf
        cases hf
        exact hk _ _ _ hM hp_this hF _ (lv_sub hl [1] rfl)
      · rw [if_pos hcd] at hf
        refine lv_aload_n hx hb dX13_commands_23 rfl (lv_at hl 0 rfl) ?_
        refine mm_get hC hM (k := 0) hp_this.1 rfl inAX13 (by decide) q7_5 rfl dX13_commands_24 ?_
        refine lv_if_ne (tgt := 64) hx hb dX13_commands_27 (by decide) (fun hcd => ?_) (fun hcd => ?_)
        · rw [if_neg hcd] at hf
          cases hf
          exact hk _ _ _ hM hp_this hF _ (lv_sub hl [1] rfl)
        · rw [if_pos hcd] at hf
          refine lv_aload_n hx hb dX13_commands_30 rfl (lv_at hl 0 rfl) ?_
          refine mm_get hC hM (k := 21) hp_this.1 rfl inAX13 (by decide) q7_26 rfl dX13_commands_31 ?_
          refine lv_aload_n hx hb dX13_commands_34 rfl (lv_at hl 0 rfl) ?_
          refine mm_get hC hM (k := 22) hp_this.1 rfl inAX13 (by decide) q7_27 rfl dX13_commands_35 ?_
          refine lv_icmp_ge (tgt := 64) hx hb dX13_commands_38 (by decide) (fun hcd => ?_) (fun hcd => ?_)
          · rw [if_pos hcd] at hf
            cases hf
            exact hk _ _ _ hM hp_this hF _ (lv_sub hl [1] rfl)
          · rw [if_neg hcd] at hf
            refine lv_aload_n hx hb dX13_commands_41 rfl (lv_at hl 0 rfl) ?_
            refine lv_bipush (v := 59) hx hb dX13_commands_42 (by decide) ?_
            obtain ⟨q44, hq44, hf⟩ := mm_bd hf
            refine mm_Vv (rest := []) hC hM (c_X13_mark l hq44 hp_this) q9_26 q1_12 ykX13_mark q9_23 q9_25 qp_9eb5c321 hp_this.1 rfl ⟨rfl, rfl⟩ ⟨Nat.le_of_ble_eq_true rfl, Nat.le_of_ble_eq_true rfl⟩ rfl hl.1 rfl (Nat.le_of_ble_eq_true rfl) dX13_commands_44 ⟨Nat.le_of_ble_eq_true rfl, Nat.le_of_ble_eq_true rfl⟩ (fun w44 H locs hM hw => ?_)
            obtain ⟨hn_this, hfr⟩ := hw
            have hp_this := hn_this
            have hF := hF.tr (hfr.wide (by omega) (by omega))
            refine lv_aload_n hx hb dX13_commands_47 rfl (lv_at hl 0 rfl) ?_
            refine mm_get hC hM (k := 24) hp_this.1 rfl inAX13 (by decide) q7_29 rfl dX13_commands_48 ?_
            refine lv_if_ne (tgt := 58) hx hb dX13_commands_51 (by decide) (fun hcd => ?_) (fun hcd => ?_)
            · rw [if_neg hcd] at hf
              refine lv_iinc (v := (L16_x1 + 1)) (lv' := [(1, .int (L16_x1 + 1)), (0, .ref b)]) hx hb dX13_commands_58 hl (k := 1) rfl rfl (by decide) rfl (fun ls hl => ?_)
              refine lv_goto (tgt := 16) hx hb dX13_commands_61 (by decide) ?_
              exact ih _ _ _ _ _ _ _ _ _ _ _ _ hf _ _ _ hM hp_this hF _ (lv_sub hl [1, 0] rfl) hk
            · rw [if_pos hcd] at hf
              refine lv_aload_n hx hb dX13_commands_54 rfl (lv_at hl 0 rfl) ?_
              obtain ⟨q55, hq55, hf⟩ := mm_bd hf
              refine mm_Vv (rest := []) hC hM (c_X13_command l hq55 hp_this) q9_10 q1_12 ykX13_command q9_7 q9_9 qp_1737e711 hp_this.1 rfl ⟨rfl, rfl⟩ ⟨Nat.le_of_ble_eq_true rfl, Nat.le_of_ble_eq_true rfl⟩ rfl hl.1 rfl (Nat.le_of_ble_eq_true rfl) dX13_commands_55 ⟨Nat.le_of_ble_eq_true rfl, Nat.le_of_ble_eq_true rfl⟩ (fun w55 H locs hM hw => ?_)
              obtain ⟨hn_this, hfr⟩ := hw
              have hp_this := hn_this
              have hF := hF.tr (hfr.wide (by omega) (by omega))
              refine lv_iinc (v := (L16_x1 + 1)) (lv' := [(1, .int (L16_x1 + 1)), (0, .ref b)]) hx hb dX13_commands_58 hl (k := 1) rfl rfl (by decide) rfl (fun ls hl => ?_)
              refine lv_goto (tgt := 16) hx hb dX13_commands_61 (by decide) ?_
              exact ih _ _ _ _ _ _ _ _ _ _ _ _ hf _ _ _ hM hp_this hF _ (lv_sub hl [1, 0] rfl) hk
  obtain ⟨q16, hq16, hf⟩ := mm_bd hf
  refine L16 K _ _ _ _ _ _ _ _ _ _ _ _ hq16 _ _ _ hM hp_this hF _ (lv_sub hl [1, 0] rfl) (fun w16 H locs hM hp_this hF ls hl => ?_)
  refine lv_iload_n hx hb dX13_commands_64 rfl (lv_at hl 0 rfl) ?_
  cases hf
  exact hret hM dX13_commands_65 rfl ⟨rfl, hp_this, hF⟩
def f_X13_run (K : Nat) (changes : Int32) (errorAt : Int32) (failedAt : Int32) (v : Nat → Int32) (before : Nat → Int32) (past : Nat → Int32) (far : Nat → Int32) (scratch : Nat → Int32) (thenX : Int32) (thenY : Int32) (thenMet : Int32) (text : Nat → Int32) (isLeft : Nat → Int32) (words : Nat → Int32) (wordAt : Nat → Int32) (textN : Int32) : Option (Int32 × Int32 × Int32 × Int32 × Int32 × (Nat → Int32) × (Nat → Int32) × (Nat → Int32) × (Nat → Int32) × (Nat → Int32) × Int32 × Int32 × Int32 × (Nat → Int32) × Int32 × Int32 × Int32 × Int32 × Int32) := (f_X13_begins K v before).bind fun q1 => (f_X13_commands K q1.1 v far scratch thenX thenY thenMet text isLeft words wordAt textN 0).bind fun q23 => if q23.2.2.2.2.2.2.2.2.2.2 = 0 then (f_X13_commands K q23.2.1 q23.2.2.1 q23.2.2.2.1 q23.2.2.2.2.1 q23.2.2.2.2.2.1 q23.2.2.2.2.2.2.1 q23.2.2.2.2.2.2.2.1 text q23.2.2.2.2.2.2.2.2.1 words wordAt textN 1).bind fun q54 => if q54.2.1 = 0 then (f_X13_ends K q54.2.1 changes q54.2.2.1 q1.2 past q54.1).bind fun q79 => some (q79.1, q54.2.1, q79.2.1, errorAt, failedAt, q79.2.2.1, q1.2, q79.2.2.2, q54.2.2.2.1, q54.2.2.2.2.1, q54.2.2.2.2.2.1, q54.2.2.2.2.2.2.1, q54.2.2.2.2.2.2.2.1, q54.2.2.2.2.2.2.2.2.1, 0, q54.2.2.2.2.2.2.2.2.2.1, textN, q54.2.2.2.2.2.2.2.2.2.2, 1) else (f_X13_ends K 2 changes q54.2.2.1 q1.2 past q54.1).bind fun q79 => some (q79.1, 2, q79.2.1, errorAt, (q54.1 - 1), q79.2.2.1, q1.2, q79.2.2.2, q54.2.2.2.1, q54.2.2.2.2.1, q54.2.2.2.2.2.1, q54.2.2.2.2.2.2.1, q54.2.2.2.2.2.2.2.1, q54.2.2.2.2.2.2.2.2.1, 0, q54.2.2.2.2.2.2.2.2.2.1, textN, q54.2.2.2.2.2.2.2.2.2.2, 1) else (f_X13_fail 1).bind fun q44 => some (q44.1, q44.2, changes, q23.2.2.2.2.2.2.2.2.2.1, failedAt, q23.2.2.1, q1.2, past, q23.2.2.2.1, q23.2.2.2.2.1, q23.2.2.2.2.2.1, q23.2.2.2.2.2.2.1, q23.2.2.2.2.2.2.2.1, q23.2.2.2.2.2.2.2.2.1, 0, q23.2.2.2.2.2.2.2.2.2.1, textN, q23.2.2.2.2.2.2.2.2.2.2, 0)
set_option maxHeartbeats 4000000 in
set_option maxRecDepth 100000 in
theorem c_X13_run (l : Launch) {G : mm_G} {K : Nat} {w : va_W} {sz : Nat} {b : Nat} {thrown : Int32} {changes : Int32} {errorAt : Int32} {failedAt : Int32} {isSaved : Int32} {v : Nat → Int32} {before : Nat → Int32} {saved : Nat → Int32} {past : Nat → Int32} {far : Nat → Int32} {scratch : Nat → Int32} {best : Nat → Int32} {thenX : Int32} {thenY : Int32} {thenMet : Int32} {text : Nat → Int32} {line : Nat → Int32} {isLeft : Nat → Int32} {words : Nat → Int32} {wordAt : Nat → Int32} {textN : Int32} {hereP : Int32} {endP : Int32} {lineN : Int32} {isWrong : Int32} {isDoing : Int32} {X : Int32 × Int32 × Int32 × Int32 × Int32 × (Nat → Int32) × (Nat → Int32) × (Nat → Int32) × (Nat → Int32) × (Nat → Int32) × Int32 × Int32 × Int32 × (Nat → Int32) × Int32 × Int32 × Int32 × Int32 × Int32} (hf : f_X13_run K changes errorAt failedAt v before past far scratch thenX thenY thenMet text isLeft words wordAt textN = some X) (hp_this : At13 G w b thrown changes errorAt failedAt isSaved v before saved past far scratch best thenX thenY thenMet text line isLeft words wordAt textN hereP endP lineN isWrong isDoing) : Met l yX13_run (Cond.code yX13_run cX13_run 2 (some .int) :: gAll) ({ frames := 8, cells := 0, slots := 0, locals := 184 }) (va_Pc [.ref b] (mm_Pre G w sz)) (mm_Qi G w sz (fun r w' => r = X.1 ∧ At13 G w' b X.2.1 X.2.2.1 X.2.2.2.1 X.2.2.2.2.1 isSaved X.2.2.2.2.2.1 X.2.2.2.2.2.2.1 saved X.2.2.2.2.2.2.2.1 X.2.2.2.2.2.2.2.2.1 X.2.2.2.2.2.2.2.2.2.1 best X.2.2.2.2.2.2.2.2.2.2.1 X.2.2.2.2.2.2.2.2.2.2.2.1 X.2.2.2.2.2.2.2.2.2.2.2.2.1 text line X.2.2.2.2.2.2.2.2.2.2.2.2.2.1 words wordAt X.2.2.2.2.2.2.2.2.2.2.2.2.2.2.1 X.2.2.2.2.2.2.2.2.2.2.2.2.2.2.2.1 X.2.2.2.2.2.2.2.2.2.2.2.2.2.2.2.2.1 lineN X.2.2.2.2.2.2.2.2.2.2.2.2.2.2.2.2.2.1 X.2.2.2.2.2.2.2.2.2.2.2.2.2.2.2.2.2.2 ∧ mm_fr w w' b (b + 13))) 0 0 (va_A w sz) := by
  refine mm_headI [.ref b] (by decide +kernel) rfl (Nat.le_of_ble_eq_true rfl) ?_
  intro p e s m args below meth c A Q hsz hC hM hret ls hl
  have hx := hC.1.1
  have hb := hC.1.2.1
  have hl : lv_has ls 2 [(0, .ref b)] := hl
  have hF : mm_fr w w b (b + 13) := mm_fr.rf
  rw [f_X13_run] at hf
  refine lv_aload_n hx hb dX13_run_0 rfl (lv_at hl 0 rfl) ?_
  obtain ⟨q1, hq1, hf⟩ := mm_bd hf
  refine mm_Vv (rest := []) hC hM (c_X13_begins l hq1 hp_this) q7_95 q1_12 ykX13_begins q7_92 q7_94 qp_0e68fe50 hp_this.1 rfl ⟨rfl, rfl⟩ ⟨Nat.le_of_ble_eq_true rfl, Nat.le_of_ble_eq_true rfl⟩ rfl hl.1 rfl (Nat.le_of_ble_eq_true rfl) dX13_run_1 ⟨Nat.le_of_ble_eq_true rfl, Nat.le_of_ble_eq_true rfl⟩ (fun w1 H locs hM hw => ?_)
  obtain ⟨hn_this, hfr⟩ := hw
  have hp_this := hn_this
  have hF := hF.tr (hfr.wide (by omega) (by omega))
  refine lv_aload_n hx hb dX13_run_4 rfl (lv_at hl 0 rfl) ?_
  refine lv_aload_n hx hb dX13_run_5 rfl (lv_at hl 0 rfl) ?_
  refine mm_get hC hM (k := 20) hp_this.1 rfl inAX13 (by decide) q7_25 rfl dX13_run_6 ?_
  refine mm_put hC hM (k := 22) tyX13 hp_this.1 rfl inAX13 tyX13_ok nmX13 (by decide) q7_27 rfl rfl rfl rfl (Nat.le_of_ble_eq_true rfl) dX13_run_9 (fun w9 H locs hM hm => ?_)
  have hp_this : At13 G w9 b q1.1 changes errorAt failedAt isSaved v q1.2 saved past far scratch best thenX thenY thenMet text line isLeft words wordAt textN hereP textN lineN isWrong isDoing := ⟨hm.1, hm.keep (hp_this.2.1) (by omega), hm.keep (hp_this.2.2.1) (by omega), hm.keep (hp_this.2.2.2.1) (by omega), hm.keep (hp_this.2.2.2.2.1) (by omega), hm.keep (hp_this.2.2.2.2.2.1) (by omega), hm.keep (hp_this.2.2.2.2.2.2.1) (by omega), hm.keep (hp_this.2.2.2.2.2.2.2.1) (by omega), hm.keep (hp_this.2.2.2.2.2.2.2.2.1) (by omega), hm.keep (hp_this.2.2.2.2.2.2.2.2.2.1) (by omega), hm.keep (hp_this.2.2.2.2.2.2.2.2.2.2.1) (by omega), hm.keep (hp_this.2.2.2.2.2.2.2.2.2.2.2.1) (by omega), hm.keep (hp_this.2.2.2.2.2.2.2.2.2.2.2.2) (by omega)⟩
  have hF := hF.tr (hm.fr (by omega) (by omega))
  refine lv_aload_n hx hb dX13_run_12 rfl (lv_at hl 0 rfl) ?_
  refine lv_iconst (v := 0) hx hb dX13_run_13 (by decide) ?_
  refine mm_put hC hM (k := 20) tyX13 hp_this.1 rfl inAX13 tyX13_ok nmX13 (by decide) q7_25 rfl rfl rfl rfl (Nat.le_of_ble_eq_true rfl) dX13_run_14 (fun w14 H locs hM hm => ?_)
  have hp_this : At13 G w14 b q1.1 changes errorAt failedAt isSaved v q1.2 saved past far scratch best thenX thenY thenMet text line isLeft words wordAt 0 hereP textN lineN isWrong isDoing := ⟨hm.1, hm.keep (hp_this.2.1) (by omega), hm.keep (hp_this.2.2.1) (by omega), hm.keep (hp_this.2.2.2.1) (by omega), hm.keep (hp_this.2.2.2.2.1) (by omega), hm.keep (hp_this.2.2.2.2.2.1) (by omega), hm.keep (hp_this.2.2.2.2.2.2.1) (by omega), hm.keep (hp_this.2.2.2.2.2.2.2.1) (by omega), hm.keep (hp_this.2.2.2.2.2.2.2.2.1) (by omega), hm.keep (hp_this.2.2.2.2.2.2.2.2.2.1) (by omega), hm.keep (hp_this.2.2.2.2.2.2.2.2.2.2.1) (by omega), hm.keep (hp_this.2.2.2.2.2.2.2.2.2.2.2.1) (by omega), hm.keep (hp_this.2.2.2.2.2.2.2.2.2.2.2.2) (by omega)⟩
  have hF := hF.tr (hm.fr (by omega) (by omega))
  refine lv_aload_n hx hb dX13_run_17 rfl (lv_at hl 0 rfl) ?_
  refine lv_iconst (v := 0) hx hb dX13_run_18 (by decide) ?_
  refine mm_put hC hM (k := 25) tyX13 hp_this.1 rfl inAX13 tyX13_ok nmX13 (by decide) q7_30 rfl rfl rfl (by decide) (Nat.le_of_ble_eq_true rfl) dX13_run_19 (fun w19 H locs hM hm => ?_)
  have hp_this : At13 G w19 b q1.1 changes errorAt failedAt isSaved v q1.2 saved past far scratch best thenX thenY thenMet text line isLeft words wordAt 0 hereP textN lineN isWrong 0 := ⟨hm.1, hm.keep (hp_this.2.1) (by omega), hm.keep (hp_this.2.2.1) (by omega), hm.keep (hp_this.2.2.2.1) (by omega), hm.keep (hp_this.2.2.2.2.1) (by omega), hm.keep (hp_this.2.2.2.2.2.1) (by omega), hm.keep (hp_this.2.2.2.2.2.2.1) (by omega), hm.keep (hp_this.2.2.2.2.2.2.2.1) (by omega), hm.keep (hp_this.2.2.2.2.2.2.2.2.1) (by omega), hm.keep (hp_this.2.2.2.2.2.2.2.2.2.1) (by omega), hm.keep (hp_this.2.2.2.2.2.2.2.2.2.2.1) (by omega), hm.keep (hp_this.2.2.2.2.2.2.2.2.2.2.2.1) (by omega), hm.keep (hp_this.2.2.2.2.2.2.2.2.2.2.2.2) (by omega)⟩
  have hF := hF.tr (hm.fr (by omega) (by omega))
  refine lv_aload_n hx hb dX13_run_22 rfl (lv_at hl 0 rfl) ?_
  obtain ⟨q23, hq23, hf⟩ := mm_bd hf
  refine mm_Vi (rest := []) hC hM (c_X13_commands l hq23 hp_this) q9_6 q1_12 ykX13_commands q9_3 q9_5 qp_8fcdc8af hp_this.1 rfl ⟨rfl, rfl⟩ ⟨Nat.le_of_ble_eq_true rfl, Nat.le_of_ble_eq_true rfl⟩ rfl hl.1 rfl (Nat.le_of_ble_eq_true rfl) dX13_run_23 ⟨Nat.le_of_ble_eq_true rfl, Nat.le_of_ble_eq_true rfl⟩ (fun r w23 H locs hM hw => ?_)
  obtain ⟨hr, hn_this, hfr⟩ := hw
  rw [hr]
  have hp_this := hn_this
  have hF := hF.tr (hfr.wide (by omega) (by omega))
  refine lv_istore_n (lv' := [(1, .int q23.1), (0, .ref b)]) hx hb dX13_run_26 rfl hl (by decide) rfl (fun ls hl => ?_)
  refine lv_aload_n hx hb dX13_run_27 rfl (lv_at hl 1 rfl) ?_
  refine mm_get hC hM (k := 24) hp_this.1 rfl inAX13 (by decide) q7_29 rfl dX13_run_28 ?_
  refine lv_if_eq (tgt := 48) hx hb dX13_run_31 (by decide) (fun hcd => ?_) (fun hcd => ?_)
  · rw [if_pos hcd] at hf
    refine lv_aload_n hx hb dX13_run_48 rfl (lv_at hl 1 rfl) ?_
    refine lv_iconst (v := 1) hx hb dX13_run_49 (by decide) ?_
    refine mm_put hC hM (k := 25) tyX13 hp_this.1 rfl inAX13 tyX13_ok nmX13 (by decide) q7_30 rfl rfl rfl (by decide) (Nat.le_of_ble_eq_true rfl) dX13_run_50 (fun w50 H locs hM hm => ?_)
    have hp_this : At13 G w50 b q23.2.1 changes errorAt failedAt isSaved q23.2.2.1 q1.2 saved past q23.2.2.2.1 q23.2.2.2.2.1 best q23.2.2.2.2.2.1 q23.2.2.2.2.2.2.1 q23.2.2.2.2.2.2.2.1 text line q23.2.2.2.2.2.2.2.2.1 words wordAt 0 q23.2.2.2.2.2.2.2.2.2.1 textN lineN q23.2.2.2.2.2.2.2.2.2.2 1 := ⟨hm.1, hm.keep (hp_this.2.1) (by omega), hm.keep (hp_this.2.2.1) (by omega), hm.keep (hp_this.2.2.2.1) (by omega), hm.keep (hp_this.2.2.2.2.1) (by omega), hm.keep (hp_this.2.2.2.2.2.1) (by omega), hm.keep (hp_this.2.2.2.2.2.2.1) (by omega), hm.keep (hp_this.2.2.2.2.2.2.2.1) (by omega), hm.keep (hp_this.2.2.2.2.2.2.2.2.1) (by omega), hm.keep (hp_this.2.2.2.2.2.2.2.2.2.1) (by omega), hm.keep (hp_this.2.2.2.2.2.2.2.2.2.2.1) (by omega), hm.keep (hp_this.2.2.2.2.2.2.2.2.2.2.2.1) (by omega), hm.keep (hp_this.2.2.2.2.2.2.2.2.2.2.2.2) (by omega)⟩
    have hF := hF.tr (hm.fr (by omega) (by omega))
    refine lv_aload_n hx hb dX13_run_53 rfl (lv_at hl 1 rfl) ?_
    obtain ⟨q54, hq54, hf⟩ := mm_bd hf
    refine mm_Vi (rest := []) hC hM (c_X13_commands l hq54 hp_this) q9_6 q1_12 ykX13_commands q9_3 q9_5 qp_8fcdc8af hp_this.1 rfl ⟨rfl, rfl⟩ ⟨Nat.le_of_ble_eq_true rfl, Nat.le_of_ble_eq_true rfl⟩ rfl hl.1 rfl (Nat.le_of_ble_eq_true rfl) dX13_run_54 ⟨Nat.le_of_ble_eq_true rfl, Nat.le_of_ble_eq_true rfl⟩ (fun r w54 H locs hM hw => ?_)
    obtain ⟨hr, hn_this, hfr⟩ := hw
    rw [hr]
    have hp_this := hn_this
    have hF := hF.tr (hfr.wide (by omega) (by omega))
    refine lv_istore_n (lv' := [(1, .int q54.1), (0, .ref b)]) hx hb dX13_run_57 rfl hl (by decide) rfl (fun ls hl => ?_)
    refine lv_aload_n hx hb dX13_run_58 rfl (lv_at hl 1 rfl) ?_
    refine mm_get hC hM (k := 0) hp_this.1 rfl inAX13 (by decide) q7_5 rfl dX13_run_59 ?_
    refine lv_if_eq (tgt := 77) hx hb dX13_run_62 (by decide) (fun hcd => ?_) (fun hcd => ?_)
    · rw [if_pos hcd] at hf
      refine lv_aload_n hx hb dX13_run_77 rfl (lv_at hl 1 rfl) ?_
      refine lv_iload_n hx hb dX13_run_78 rfl (lv_at hl 0 rfl) ?_
      obtain ⟨q79, hq79, hf⟩ := mm_bd hf
      refine mm_Vi (rest := []) hC hM (c_X13_ends l hq79 hp_this) q7_133 q1_12 ykX13_ends q7_130 q7_132 qp_952383d2 hp_this.1 rfl ⟨rfl, rfl⟩ ⟨Nat.le_of_ble_eq_true rfl, Nat.le_of_ble_eq_true rfl⟩ rfl hl.1 rfl (Nat.le_of_ble_eq_true rfl) dX13_run_79 ⟨Nat.le_of_ble_eq_true rfl, Nat.le_of_ble_eq_true rfl⟩ (fun r w79 H locs hM hw => ?_)
      obtain ⟨hr, hn_this, hfr⟩ := hw
      rw [hr]
      have hp_this := hn_this
      have hF := hF.tr (hfr.wide (by omega) (by omega))
      cases hf
      exact hret hM dX13_run_82 rfl ⟨rfl, hp_this, hF⟩
    · rw [if_neg hcd] at hf
      refine lv_aload_n hx hb dX13_run_65 rfl (lv_at hl 1 rfl) ?_
      refine lv_iload_n hx hb dX13_run_66 rfl (lv_at hl 0 rfl) ?_
      refine lv_iconst (v := 1) hx hb dX13_run_67 (by decide) ?_
      refine lv_isub hx hb dX13_run_68 ?_
      refine mm_put hC hM (k := 3) tyX13 hp_this.1 rfl inAX13 tyX13_ok nmX13 (by decide) q7_8 rfl rfl rfl rfl (Nat.le_of_ble_eq_true rfl) dX13_run_69 (fun w69 H locs hM hm => ?_)
      have hp_this : At13 G w69 b q54.2.1 changes errorAt (q54.1 - 1) isSaved q54.2.2.1 q1.2 saved past q54.2.2.2.1 q54.2.2.2.2.1 best q54.2.2.2.2.2.1 q54.2.2.2.2.2.2.1 q54.2.2.2.2.2.2.2.1 text line q54.2.2.2.2.2.2.2.2.1 words wordAt 0 q54.2.2.2.2.2.2.2.2.2.1 textN lineN q54.2.2.2.2.2.2.2.2.2.2 1 := ⟨hm.1, hm.keep (hp_this.2.1) (by omega), hm.keep (hp_this.2.2.1) (by omega), hm.keep (hp_this.2.2.2.1) (by omega), hm.keep (hp_this.2.2.2.2.1) (by omega), hm.keep (hp_this.2.2.2.2.2.1) (by omega), hm.keep (hp_this.2.2.2.2.2.2.1) (by omega), hm.keep (hp_this.2.2.2.2.2.2.2.1) (by omega), hm.keep (hp_this.2.2.2.2.2.2.2.2.1) (by omega), hm.keep (hp_this.2.2.2.2.2.2.2.2.2.1) (by omega), hm.keep (hp_this.2.2.2.2.2.2.2.2.2.2.1) (by omega), hm.keep (hp_this.2.2.2.2.2.2.2.2.2.2.2.1) (by omega), hm.keep (hp_this.2.2.2.2.2.2.2.2.2.2.2.2) (by omega)⟩
      have hF := hF.tr (hm.fr (by omega) (by omega))
      refine lv_aload_n hx hb dX13_run_72 rfl (lv_at hl 1 rfl) ?_
      refine lv_iconst (v := 2) hx hb dX13_run_73 (by decide) ?_
      refine mm_put hC hM (k := 0) tyX13 hp_this.1 rfl inAX13 tyX13_ok nmX13 (by decide) q7_5 rfl rfl rfl rfl (Nat.le_of_ble_eq_true rfl) dX13_run_74 (fun w74 H locs hM hm => ?_)
      have hp_this : At13 G w74 b 2 changes errorAt (q54.1 - 1) isSaved q54.2.2.1 q1.2 saved past q54.2.2.2.1 q54.2.2.2.2.1 best q54.2.2.2.2.2.1 q54.2.2.2.2.2.2.1 q54.2.2.2.2.2.2.2.1 text line q54.2.2.2.2.2.2.2.2.1 words wordAt 0 q54.2.2.2.2.2.2.2.2.2.1 textN lineN q54.2.2.2.2.2.2.2.2.2.2 1 := ⟨hm.1, hm.keep (hp_this.2.1) (by omega), hm.keep (hp_this.2.2.1) (by omega), hm.keep (hp_this.2.2.2.1) (by omega), hm.keep (hp_this.2.2.2.2.1) (by omega), hm.keep (hp_this.2.2.2.2.2.1) (by omega), hm.keep (hp_this.2.2.2.2.2.2.1) (by omega), hm.keep (hp_this.2.2.2.2.2.2.2.1) (by omega), hm.keep (hp_this.2.2.2.2.2.2.2.2.1) (by omega), hm.keep (hp_this.2.2.2.2.2.2.2.2.2.1) (by omega), hm.keep (hp_this.2.2.2.2.2.2.2.2.2.2.1) (by omega), hm.keep (hp_this.2.2.2.2.2.2.2.2.2.2.2.1) (by omega), hm.keep (hp_this.2.2.2.2.2.2.2.2.2.2.2.2) (by omega)⟩
      have hF := hF.tr (hm.fr (by omega) (by omega))
      refine lv_aload_n hx hb dX13_run_77 rfl (lv_at hl 1 rfl) ?_
      refine lv_iload_n hx hb dX13_run_78 rfl (lv_at hl 0 rfl) ?_
      obtain ⟨q79, hq79, hf⟩ := mm_bd hf
      refine mm_Vi (rest := []) hC hM (c_X13_ends l hq79 hp_this) q7_133 q1_12 ykX13_ends q7_130 q7_132 qp_952383d2 hp_this.1 rfl ⟨rfl, rfl⟩ ⟨Nat.le_of_ble_eq_true rfl, Nat.le_of_ble_eq_true rfl⟩ rfl hl.1 rfl (Nat.le_of_ble_eq_true rfl) dX13_run_79 ⟨Nat.le_of_ble_eq_true rfl, Nat.le_of_ble_eq_true rfl⟩ (fun r w79 H locs hM hw => ?_)
      obtain ⟨hr, hn_this, hfr⟩ := hw
      rw [hr]
      have hp_this := hn_this
      have hF := hF.tr (hfr.wide (by omega) (by omega))
      cases hf
      exact hret hM dX13_run_82 rfl ⟨rfl, hp_this, hF⟩
  · rw [if_neg hcd] at hf
    refine lv_aload_n hx hb dX13_run_34 rfl (lv_at hl 1 rfl) ?_
    refine lv_aload_n hx hb dX13_run_35 rfl (lv_at hl 1 rfl) ?_
    refine mm_get hC hM (k := 21) hp_this.1 rfl inAX13 (by decide) q7_26 rfl dX13_run_36 ?_
    refine mm_put hC hM (k := 2) tyX13 hp_this.1 rfl inAX13 tyX13_ok nmX13 (by decide) q7_7 rfl rfl rfl rfl (Nat.le_of_ble_eq_true rfl) dX13_run_39 (fun w39 H locs hM hm => ?_)
    have hp_this : At13 G w39 b q23.2.1 changes q23.2.2.2.2.2.2.2.2.2.1 failedAt isSaved q23.2.2.1 q1.2 saved past q23.2.2.2.1 q23.2.2.2.2.1 best q23.2.2.2.2.2.1 q23.2.2.2.2.2.2.1 q23.2.2.2.2.2.2.2.1 text line q23.2.2.2.2.2.2.2.2.1 words wordAt 0 q23.2.2.2.2.2.2.2.2.2.1 textN lineN q23.2.2.2.2.2.2.2.2.2.2 0 := ⟨hm.1, hm.keep (hp_this.2.1) (by omega), hm.keep (hp_this.2.2.1) (by omega), hm.keep (hp_this.2.2.2.1) (by omega), hm.keep (hp_this.2.2.2.2.1) (by omega), hm.keep (hp_this.2.2.2.2.2.1) (by omega), hm.keep (hp_this.2.2.2.2.2.2.1) (by omega), hm.keep (hp_this.2.2.2.2.2.2.2.1) (by omega), hm.keep (hp_this.2.2.2.2.2.2.2.2.1) (by omega), hm.keep (hp_this.2.2.2.2.2.2.2.2.2.1) (by omega), hm.keep (hp_this.2.2.2.2.2.2.2.2.2.2.1) (by omega), hm.keep (hp_this.2.2.2.2.2.2.2.2.2.2.2.1) (by omega), hm.keep (hp_this.2.2.2.2.2.2.2.2.2.2.2.2) (by omega)⟩
    have hF := hF.tr (hm.fr (by omega) (by omega))
    refine lv_aload_n hx hb dX13_run_42 rfl (lv_at hl 1 rfl) ?_
    refine lv_iconst (v := 1) hx hb dX13_run_43 (by decide) ?_
    obtain ⟨q44, hq44, hf⟩ := mm_bd hf
    refine mm_Vi (rest := []) hC hM (c_X13_fail l hq44 hp_this) q7_112 q1_12 ykX13_fail q7_109 q7_111 qp_bcc4f98e hp_this.1 rfl ⟨rfl, rfl⟩ ⟨Nat.le_of_ble_eq_true rfl, Nat.le_of_ble_eq_true rfl⟩ rfl hl.1 rfl (Nat.le_of_ble_eq_true rfl) dX13_run_44 ⟨Nat.le_of_ble_eq_true rfl, Nat.le_of_ble_eq_true rfl⟩ (fun r w44 H locs hM hw => ?_)
    obtain ⟨hr, hn_this, hfr⟩ := hw
    rw [hr]
    have hp_this := hn_this
    have hF := hF.tr (hfr.wide (by omega) (by omega))
    cases hf
    exact hret hM dX13_run_47 rfl ⟨rfl, hp_this, hF⟩
def f_X13_errorPosition (errorAt : Int32) : Option (Int32 × Int32) := if 0 ≤ errorAt then some (errorAt, 0) else some (0, 1)
set_option maxHeartbeats 4000000 in
set_option maxRecDepth 100000 in
theorem c_X13_errorPosition (l : Launch) {G : mm_G} {w : va_W} {sz : Nat} {b : Nat} {thrown : Int32} {changes : Int32} {errorAt : Int32} {failedAt : Int32} {isSaved : Int32} {v : Nat → Int32} {before : Nat → Int32} {saved : Nat → Int32} {past : Nat → Int32} {far : Nat → Int32} {scratch : Nat → Int32} {best : Nat → Int32} {thenX : Int32} {thenY : Int32} {thenMet : Int32} {text : Nat → Int32} {line : Nat → Int32} {isLeft : Nat → Int32} {words : Nat → Int32} {wordAt : Nat → Int32} {textN : Int32} {hereP : Int32} {endP : Int32} {lineN : Int32} {isWrong : Int32} {isDoing : Int32} {X : Int32 × Int32} (hf : f_X13_errorPosition errorAt = some X) (hp_this : At13 G w b thrown changes errorAt failedAt isSaved v before saved past far scratch best thenX thenY thenMet text line isLeft words wordAt textN hereP endP lineN isWrong isDoing) : Met l yX13_errorPosition (Cond.code yX13_errorPosition cX13_errorPosition 1 (some .int) :: gAll) ({ frames := 0, cells := 0, slots := 0, locals := 0 }) (va_Pc [.ref b] (mm_Pre G w sz)) (mm_Qi G w sz (fun r w' => r = X.1 ∧ At13 G w' b X.2 changes errorAt failedAt isSaved v before saved past far scratch best thenX thenY thenMet text line isLeft words wordAt textN hereP endP lineN isWrong isDoing ∧ mm_fr w w' b (b + 13))) 0 0 (va_A w sz) := by
  refine mm_headI [.ref b] (by decide +kernel) rfl (Nat.le_of_ble_eq_true rfl) ?_
  intro p e s m args below meth c A Q hsz hC hM hret ls hl
  have hx := hC.1.1
  have hb := hC.1.2.1
  have hl : lv_has ls 1 [(0, .ref b)] := hl
  have hF : mm_fr w w b (b + 13) := mm_fr.rf
  rw [f_X13_errorPosition] at hf
  refine lv_aload_n hx hb dX13_errorPosition_0 rfl (lv_at hl 0 rfl) ?_
  refine lv_aload_n hx hb dX13_errorPosition_1 rfl (lv_at hl 0 rfl) ?_
  refine mm_get hC hM (k := 2) hp_this.1 rfl inAX13 (by decide) q7_7 rfl dX13_errorPosition_2 ?_
  refine lv_if_ge (tgt := 12) hx hb dX13_errorPosition_5 (by decide) (fun hcd => ?_) (fun hcd => ?_)
  · rw [if_pos hcd] at hf
    refine lv_iconst (v := 0) hx hb dX13_errorPosition_12 (by decide) ?_
    refine mm_put hC hM (k := 0) tyX13 hp_this.1 rfl inAX13 tyX13_ok nmX13 (by decide) q7_5 rfl rfl rfl rfl (Nat.le_of_ble_eq_true rfl) dX13_errorPosition_13 (fun w13 H locs hM hm => ?_)
    have hp_this : At13 G w13 b 0 changes errorAt failedAt isSaved v before saved past far scratch best thenX thenY thenMet text line isLeft words wordAt textN hereP endP lineN isWrong isDoing := ⟨hm.1, hm.keep (hp_this.2.1) (by omega), hm.keep (hp_this.2.2.1) (by omega), hm.keep (hp_this.2.2.2.1) (by omega), hm.keep (hp_this.2.2.2.2.1) (by omega), hm.keep (hp_this.2.2.2.2.2.1) (by omega), hm.keep (hp_this.2.2.2.2.2.2.1) (by omega), hm.keep (hp_this.2.2.2.2.2.2.2.1) (by omega), hm.keep (hp_this.2.2.2.2.2.2.2.2.1) (by omega), hm.keep (hp_this.2.2.2.2.2.2.2.2.2.1) (by omega), hm.keep (hp_this.2.2.2.2.2.2.2.2.2.2.1) (by omega), hm.keep (hp_this.2.2.2.2.2.2.2.2.2.2.2.1) (by omega), hm.keep (hp_this.2.2.2.2.2.2.2.2.2.2.2.2) (by omega)⟩
    have hF := hF.tr (hm.fr (by omega) (by omega))
    refine lv_aload_n hx hb dX13_errorPosition_16 rfl (lv_at hl 0 rfl) ?_
    refine mm_get hC hM (k := 0) hp_this.1 rfl inAX13 (by decide) q7_5 rfl dX13_errorPosition_17 ?_
    refine lv_if_ne (tgt := 30) hx hb dX13_errorPosition_20 (by decide) (fun c => absurd (by decide) c) (fun _ => ?_)
    refine lv_aload_n hx hb dX13_errorPosition_23 rfl (lv_at hl 0 rfl) ?_
    refine mm_get hC hM (k := 2) hp_this.1 rfl inAX13 (by decide) q7_7 rfl dX13_errorPosition_24 ?_
    refine lv_goto (tgt := 31) hx hb dX13_errorPosition_27 (by decide) ?_
    cases hf
    exact hret hM dX13_errorPosition_31 rfl ⟨rfl, hp_this, hF⟩
  · rw [if_neg hcd] at hf
    refine lv_iconst (v := 1) hx hb dX13_errorPosition_8 (by decide) ?_
    refine lv_goto (tgt := 13) hx hb dX13_errorPosition_9 (by decide) ?_
    refine mm_put hC hM (k := 0) tyX13 hp_this.1 rfl inAX13 tyX13_ok nmX13 (by decide) q7_5 rfl rfl rfl rfl (Nat.le_of_ble_eq_true rfl) dX13_errorPosition_13 (fun w13 H locs hM hm => ?_)
    have hp_this : At13 G w13 b 1 changes errorAt failedAt isSaved v before saved past far scratch best thenX thenY thenMet text line isLeft words wordAt textN hereP endP lineN isWrong isDoing := ⟨hm.1, hm.keep (hp_this.2.1) (by omega), hm.keep (hp_this.2.2.1) (by omega), hm.keep (hp_this.2.2.2.1) (by omega), hm.keep (hp_this.2.2.2.2.1) (by omega), hm.keep (hp_this.2.2.2.2.2.1) (by omega), hm.keep (hp_this.2.2.2.2.2.2.1) (by omega), hm.keep (hp_this.2.2.2.2.2.2.2.1) (by omega), hm.keep (hp_this.2.2.2.2.2.2.2.2.1) (by omega), hm.keep (hp_this.2.2.2.2.2.2.2.2.2.1) (by omega), hm.keep (hp_this.2.2.2.2.2.2.2.2.2.2.1) (by omega), hm.keep (hp_this.2.2.2.2.2.2.2.2.2.2.2.1) (by omega), hm.keep (hp_this.2.2.2.2.2.2.2.2.2.2.2.2) (by omega)⟩
    have hF := hF.tr (hm.fr (by omega) (by omega))
    refine lv_aload_n hx hb dX13_errorPosition_16 rfl (lv_at hl 0 rfl) ?_
    refine mm_get hC hM (k := 0) hp_this.1 rfl inAX13 (by decide) q7_5 rfl dX13_errorPosition_17 ?_
    refine lv_if_ne (tgt := 30) hx hb dX13_errorPosition_20 (by decide) (fun _ => ?_) (fun c => absurd c (by decide))
    refine lv_iconst (v := 0) hx hb dX13_errorPosition_30 (by decide) ?_
    cases hf
    exact hret hM dX13_errorPosition_31 rfl ⟨rfl, hp_this, hF⟩
def f_X13_failedCommand (failedAt : Int32) : Option (Int32 × Int32) := if 0 ≤ failedAt then some (failedAt, 0) else some (0, 1)
set_option maxHeartbeats 4000000 in
set_option maxRecDepth 100000 in
theorem c_X13_failedCommand (l : Launch) {G : mm_G} {w : va_W} {sz : Nat} {b : Nat} {thrown : Int32} {changes : Int32} {errorAt : Int32} {failedAt : Int32} {isSaved : Int32} {v : Nat → Int32} {before : Nat → Int32} {saved : Nat → Int32} {past : Nat → Int32} {far : Nat → Int32} {scratch : Nat → Int32} {best : Nat → Int32} {thenX : Int32} {thenY : Int32} {thenMet : Int32} {text : Nat → Int32} {line : Nat → Int32} {isLeft : Nat → Int32} {words : Nat → Int32} {wordAt : Nat → Int32} {textN : Int32} {hereP : Int32} {endP : Int32} {lineN : Int32} {isWrong : Int32} {isDoing : Int32} {X : Int32 × Int32} (hf : f_X13_failedCommand failedAt = some X) (hp_this : At13 G w b thrown changes errorAt failedAt isSaved v before saved past far scratch best thenX thenY thenMet text line isLeft words wordAt textN hereP endP lineN isWrong isDoing) : Met l yX13_failedCommand (Cond.code yX13_failedCommand cX13_failedCommand 1 (some .int) :: gAll) ({ frames := 0, cells := 0, slots := 0, locals := 0 }) (va_Pc [.ref b] (mm_Pre G w sz)) (mm_Qi G w sz (fun r w' => r = X.1 ∧ At13 G w' b X.2 changes errorAt failedAt isSaved v before saved past far scratch best thenX thenY thenMet text line isLeft words wordAt textN hereP endP lineN isWrong isDoing ∧ mm_fr w w' b (b + 13))) 0 0 (va_A w sz) := by
  refine mm_headI [.ref b] (by decide +kernel) rfl (Nat.le_of_ble_eq_true rfl) ?_
  intro p e s m args below meth c A Q hsz hC hM hret ls hl
  have hx := hC.1.1
  have hb := hC.1.2.1
  have hl : lv_has ls 1 [(0, .ref b)] := hl
  have hF : mm_fr w w b (b + 13) := mm_fr.rf
  rw [f_X13_failedCommand] at hf
  refine lv_aload_n hx hb dX13_failedCommand_0 rfl (lv_at hl 0 rfl) ?_
  refine lv_aload_n hx hb dX13_failedCommand_1 rfl (lv_at hl 0 rfl) ?_
  refine mm_get hC hM (k := 3) hp_this.1 rfl inAX13 (by decide) q7_8 rfl dX13_failedCommand_2 ?_
  refine lv_if_ge (tgt := 12) hx hb dX13_failedCommand_5 (by decide) (fun hcd => ?_) (fun hcd => ?_)
  · rw [if_pos hcd] at hf
    refine lv_iconst (v := 0) hx hb dX13_failedCommand_12 (by decide) ?_
    refine mm_put hC hM (k := 0) tyX13 hp_this.1 rfl inAX13 tyX13_ok nmX13 (by decide) q7_5 rfl rfl rfl rfl (Nat.le_of_ble_eq_true rfl) dX13_failedCommand_13 (fun w13 H locs hM hm => ?_)
    have hp_this : At13 G w13 b 0 changes errorAt failedAt isSaved v before saved past far scratch best thenX thenY thenMet text line isLeft words wordAt textN hereP endP lineN isWrong isDoing := ⟨hm.1, hm.keep (hp_this.2.1) (by omega), hm.keep (hp_this.2.2.1) (by omega), hm.keep (hp_this.2.2.2.1) (by omega), hm.keep (hp_this.2.2.2.2.1) (by omega), hm.keep (hp_this.2.2.2.2.2.1) (by omega), hm.keep (hp_this.2.2.2.2.2.2.1) (by omega), hm.keep (hp_this.2.2.2.2.2.2.2.1) (by omega), hm.keep (hp_this.2.2.2.2.2.2.2.2.1) (by omega), hm.keep (hp_this.2.2.2.2.2.2.2.2.2.1) (by omega), hm.keep (hp_this.2.2.2.2.2.2.2.2.2.2.1) (by omega), hm.keep (hp_this.2.2.2.2.2.2.2.2.2.2.2.1) (by omega), hm.keep (hp_this.2.2.2.2.2.2.2.2.2.2.2.2) (by omega)⟩
    have hF := hF.tr (hm.fr (by omega) (by omega))
    refine lv_aload_n hx hb dX13_failedCommand_16 rfl (lv_at hl 0 rfl) ?_
    refine mm_get hC hM (k := 0) hp_this.1 rfl inAX13 (by decide) q7_5 rfl dX13_failedCommand_17 ?_
    refine lv_if_ne (tgt := 30) hx hb dX13_failedCommand_20 (by decide) (fun c => absurd (by decide) c) (fun _ => ?_)
    refine lv_aload_n hx hb dX13_failedCommand_23 rfl (lv_at hl 0 rfl) ?_
    refine mm_get hC hM (k := 3) hp_this.1 rfl inAX13 (by decide) q7_8 rfl dX13_failedCommand_24 ?_
    refine lv_goto (tgt := 31) hx hb dX13_failedCommand_27 (by decide) ?_
    cases hf
    exact hret hM dX13_failedCommand_31 rfl ⟨rfl, hp_this, hF⟩
  · rw [if_neg hcd] at hf
    refine lv_iconst (v := 1) hx hb dX13_failedCommand_8 (by decide) ?_
    refine lv_goto (tgt := 13) hx hb dX13_failedCommand_9 (by decide) ?_
    refine mm_put hC hM (k := 0) tyX13 hp_this.1 rfl inAX13 tyX13_ok nmX13 (by decide) q7_5 rfl rfl rfl rfl (Nat.le_of_ble_eq_true rfl) dX13_failedCommand_13 (fun w13 H locs hM hm => ?_)
    have hp_this : At13 G w13 b 1 changes errorAt failedAt isSaved v before saved past far scratch best thenX thenY thenMet text line isLeft words wordAt textN hereP endP lineN isWrong isDoing := ⟨hm.1, hm.keep (hp_this.2.1) (by omega), hm.keep (hp_this.2.2.1) (by omega), hm.keep (hp_this.2.2.2.1) (by omega), hm.keep (hp_this.2.2.2.2.1) (by omega), hm.keep (hp_this.2.2.2.2.2.1) (by omega), hm.keep (hp_this.2.2.2.2.2.2.1) (by omega), hm.keep (hp_this.2.2.2.2.2.2.2.1) (by omega), hm.keep (hp_this.2.2.2.2.2.2.2.2.1) (by omega), hm.keep (hp_this.2.2.2.2.2.2.2.2.2.1) (by omega), hm.keep (hp_this.2.2.2.2.2.2.2.2.2.2.1) (by omega), hm.keep (hp_this.2.2.2.2.2.2.2.2.2.2.2.1) (by omega), hm.keep (hp_this.2.2.2.2.2.2.2.2.2.2.2.2) (by omega)⟩
    have hF := hF.tr (hm.fr (by omega) (by omega))
    refine lv_aload_n hx hb dX13_failedCommand_16 rfl (lv_at hl 0 rfl) ?_
    refine mm_get hC hM (k := 0) hp_this.1 rfl inAX13 (by decide) q7_5 rfl dX13_failedCommand_17 ?_
    refine lv_if_ne (tgt := 30) hx hb dX13_failedCommand_20 (by decide) (fun _ => ?_) (fun c => absurd c (by decide))
    refine lv_iconst (v := 0) hx hb dX13_failedCommand_30 (by decide) ?_
    cases hf
    exact hret hM dX13_failedCommand_31 rfl ⟨rfl, hp_this, hF⟩
def f_X13_writes (line : Nat → Int32) (lineN : Int32) (x1 : Int32) : Option ((Nat → Int32) × Int32) := mm_g (mm_ck lineN 50) (some ((upd line lineN.toNatClampNeg x1), (lineN + 1)))
set_option maxHeartbeats 4000000 in
set_option maxRecDepth 100000 in
theorem c_X13_writes (l : Launch) {G : mm_G} {w : va_W} {sz : Nat} {b : Nat} {thrown : Int32} {changes : Int32} {errorAt : Int32} {failedAt : Int32} {isSaved : Int32} {v : Nat → Int32} {before : Nat → Int32} {saved : Nat → Int32} {past : Nat → Int32} {far : Nat → Int32} {scratch : Nat → Int32} {best : Nat → Int32} {thenX : Int32} {thenY : Int32} {thenMet : Int32} {text : Nat → Int32} {line : Nat → Int32} {isLeft : Nat → Int32} {words : Nat → Int32} {wordAt : Nat → Int32} {textN : Int32} {hereP : Int32} {endP : Int32} {lineN : Int32} {isWrong : Int32} {isDoing : Int32} {x1 : Int32} {X : (Nat → Int32) × Int32} (hf : f_X13_writes line lineN x1 = some X) (hp_this : At13 G w b thrown changes errorAt failedAt isSaved v before saved past far scratch best thenX thenY thenMet text line isLeft words wordAt textN hereP endP lineN isWrong isDoing) : Met l yX13_writes (Cond.code yX13_writes cX13_writes 2 none :: gAll) ({ frames := 0, cells := 0, slots := 0, locals := 0 }) (va_Pc [.ref b, .int x1] (mm_Pre G w sz)) (mm_Qv G w sz (fun w' => At13 G w' b thrown changes errorAt failedAt isSaved v before saved past far scratch best thenX thenY thenMet text X.1 isLeft words wordAt textN hereP endP X.2 isWrong isDoing ∧ mm_fr w w' b (b + 13))) 0 0 (va_A w sz) := by
  refine mm_headV [.ref b, .int x1] (by decide +kernel) rfl (Nat.le_of_ble_eq_true rfl) ?_
  intro p e s m args below meth c A Q hsz hC hM hret hnm ls hl
  have hx := hC.1.1
  have hb := hC.1.2.1
  have hl : lv_has ls 2 [(0, .ref b), (1, .int x1)] := hl
  have hF : mm_fr w w b (b + 13) := mm_fr.rf
  rw [f_X13_writes] at hf
  refine lv_aload_n hx hb dX13_writes_0 rfl (lv_at hl 0 rfl) ?_
  refine mm_get hC hM (k := 16) hp_this.1 rfl inAX13 (by decide) q7_21 rfl dX13_writes_1 ?_
  refine lv_aload_n hx hb dX13_writes_4 rfl (lv_at hl 0 rfl) ?_
  refine mm_get hC hM (k := 23) hp_this.1 rfl inAX13 (by decide) q7_28 rfl dX13_writes_5 ?_
  refine lv_iload_n hx hb dX13_writes_8 rfl (lv_at hl 1 rfl) ?_
  obtain ⟨hg9, hf⟩ := mm_gd hf
  refine mm_iast hC hM (hp_this.2.2.2.2.2.2.2.2.2.1) hg9 dX13_writes_9 (fun w9 H locs hM hm => ?_)
  have hp_this : At13 G w9 b thrown changes errorAt failedAt isSaved v before saved past far scratch best thenX thenY thenMet text (upd line lineN.toNatClampNeg x1) isLeft words wordAt textN hereP endP lineN isWrong isDoing := ⟨hm.keep (hp_this.1) (by omega), hm.keep (hp_this.2.1) (by omega), hm.keep (hp_this.2.2.1) (by omega), hm.keep (hp_this.2.2.2.1) (by omega), hm.keep (hp_this.2.2.2.2.1) (by omega), hm.keep (hp_this.2.2.2.2.2.1) (by omega), hm.keep (hp_this.2.2.2.2.2.2.1) (by omega), hm.keep (hp_this.2.2.2.2.2.2.2.1) (by omega), hm.keep (hp_this.2.2.2.2.2.2.2.2.1) (by omega), hm.1, hm.keep (hp_this.2.2.2.2.2.2.2.2.2.2.1) (by omega), hm.keep (hp_this.2.2.2.2.2.2.2.2.2.2.2.1) (by omega), hm.keep (hp_this.2.2.2.2.2.2.2.2.2.2.2.2) (by omega)⟩
  have hF := hF.tr (hm.fr (by omega) (by omega))
  refine lv_aload_n hx hb dX13_writes_10 rfl (lv_at hl 0 rfl) ?_
  refine lv_dup hx hb dX13_writes_11 rfl ?_
  refine mm_get hC hM (k := 23) hp_this.1 rfl inAX13 (by decide) q7_28 rfl dX13_writes_12 ?_
  refine lv_iconst (v := 1) hx hb dX13_writes_15 (by decide) ?_
  refine lv_iadd hx hb dX13_writes_16 ?_
  refine mm_put hC hM (k := 23) tyX13 hp_this.1 rfl inAX13 tyX13_ok nmX13 (by decide) q7_28 rfl rfl rfl rfl (Nat.le_of_ble_eq_true rfl) dX13_writes_17 (fun w17 H locs hM hm => ?_)
  have hp_this : At13 G w17 b thrown changes errorAt failedAt isSaved v before saved past far scratch best thenX thenY thenMet text (upd line lineN.toNatClampNeg x1) isLeft words wordAt textN hereP endP (lineN + 1) isWrong isDoing := ⟨hm.1, hm.keep (hp_this.2.1) (by omega), hm.keep (hp_this.2.2.1) (by omega), hm.keep (hp_this.2.2.2.1) (by omega), hm.keep (hp_this.2.2.2.2.1) (by omega), hm.keep (hp_this.2.2.2.2.2.1) (by omega), hm.keep (hp_this.2.2.2.2.2.2.1) (by omega), hm.keep (hp_this.2.2.2.2.2.2.2.1) (by omega), hm.keep (hp_this.2.2.2.2.2.2.2.2.1) (by omega), hm.keep (hp_this.2.2.2.2.2.2.2.2.2.1) (by omega), hm.keep (hp_this.2.2.2.2.2.2.2.2.2.2.1) (by omega), hm.keep (hp_this.2.2.2.2.2.2.2.2.2.2.2.1) (by omega), hm.keep (hp_this.2.2.2.2.2.2.2.2.2.2.2.2) (by omega)⟩
  have hF := hF.tr (hm.fr (by omega) (by omega))
  cases hf
  exact hret hM dX13_writes_20 ⟨hp_this, hF⟩
def f_X13_shown_L2 (K : Nat) (v : Nat → Int32) (x1 : Int32) : Nat → (Int32) → Option (Int32)
  | 0, _ => none
  | n + 1, x2 => if (v 3) ≤ x2 then (f_X13_isTaken K v x1 (-1)).bind fun q47 => if q47 = 0 then mm_g (mm_ck (7 + x1) 238) (if (v (7 + x1).toNatClampNeg) = 1 then some 35 else mm_g (mm_ck (7 + x1) 238) (if (v (7 + x1).toNatClampNeg) = 2 then some 39 else some 46)) else some 126 else (f_X13_where v x2).bind fun q14 => if q14 = x1 then (f_X13_of x2 0).bind fun q29 => mm_g (mm_ck q29 238) (some (48 + ((v q29.toNatClampNeg) - (v q29.toNatClampNeg) / 10 * 10))) else f_X13_shown_L2 K v x1 n (x2 + 1)
def f_X13_shown (K : Nat) (v : Nat → Int32) (x1 : Int32) : Option (Int32) := f_X13_shown_L2 K v x1 K 0
set_option maxHeartbeats 4000000 in
set_option maxRecDepth 100000 in
theorem c_X13_shown (l : Launch) {G : mm_G} {K : Nat} {w : va_W} {sz : Nat} {b : Nat} {thrown : Int32} {changes : Int32} {errorAt : Int32} {failedAt : Int32} {isSaved : Int32} {v : Nat → Int32} {before : Nat → Int32} {saved : Nat → Int32} {past : Nat → Int32} {far : Nat → Int32} {scratch : Nat → Int32} {best : Nat → Int32} {thenX : Int32} {thenY : Int32} {thenMet : Int32} {text : Nat → Int32} {line : Nat → Int32} {isLeft : Nat → Int32} {words : Nat → Int32} {wordAt : Nat → Int32} {textN : Int32} {hereP : Int32} {endP : Int32} {lineN : Int32} {isWrong : Int32} {isDoing : Int32} {x1 : Int32} {X : Int32} (hf : f_X13_shown K v x1 = some X) (hp_this : At13 G w b thrown changes errorAt failedAt isSaved v before saved past far scratch best thenX thenY thenMet text line isLeft words wordAt textN hereP endP lineN isWrong isDoing) : Met l yX13_shown (Cond.code yX13_shown cX13_shown 3 (some .int) :: gAll) ({ frames := 3, cells := 0, slots := 0, locals := 65 }) (va_Pc [.ref b, .int x1] (mm_Pre G w sz)) (mm_Qi G w sz (fun r w' => r = X ∧ w' = w)) 0 0 (va_A w sz) := by
  refine mm_headI [.ref b, .int x1] (by decide +kernel) rfl (Nat.le_of_ble_eq_true rfl) ?_
  intro p e s m args below meth c A Q hsz hC hM hret ls hl
  have hx := hC.1.1
  have hb := hC.1.2.1
  have hl : lv_has ls 3 [(0, .ref b), (1, .int x1)] := hl
  rw [f_X13_shown] at hf
  refine lv_iconst (v := 0) hx hb dX13_shown_0 (by decide) ?_
  refine lv_istore_n (lv' := [(2, .int 0), (0, .ref b), (1, .int x1)]) hx hb dX13_shown_1 rfl hl (by decide) rfl (fun ls hl => ?_)
  have L2 : ∀ (n : Nat) (L2_x2 : Int32), f_X13_shown_L2 K v x1 n L2_x2 = some X → ∀ (H : Heap) (locs : List Loc), mm_S G A s.heap w H locs → ∀ (ls : Array Slot), lv_has ls 3 [(0, .ref b), (1, .int x1), (2, .int L2_x2)] → W p l e ({ frames := 3, cells := 0, slots := 0, locals := 65 } : Room) s m args below meth c H locs 0 0 Q (F0 m 2 ls []) := by
    intro n
    induction n with
    | zero => intro L2_x2 hf; cases hf
    | succ n ih =>
      intro L2_x2 hf H locs hM ls hl
      rw [f_X13_shown_L2] at hf
      refine lv_iload_n hx hb dX13_shown_2 rfl (lv_at hl 2 rfl) ?_
      refine lv_aload_n hx hb dX13_shown_3 rfl (lv_at hl 0 rfl) ?_
      refine mm_get hC hM (k := 5) hp_this.1 rfl inAX13 (by decide) q7_10 rfl dX13_shown_4 ?_
      refine lv_iconst (v := 3) hx hb dX13_shown_7 (by decide) ?_
      refine mm_ialdN (N := 3) hC hM (hp_this.2.1) (by decide) (by unfold vp_in; decide) dX13_shown_8 ?_
      refine lv_icmp_ge (tgt := 44) hx hb dX13_shown_9 (by decide) (fun hcd => ?_) (fun hcd => ?_)
      · rw [if_pos hcd] at hf
        refine lv_aload_n hx hb dX13_shown_44 rfl (lv_at hl 0 rfl) ?_
        refine lv_iload_n hx hb dX13_shown_45 rfl (lv_at hl 1 rfl) ?_
        refine lv_iconst (v := (-1)) hx hb dX13_shown_46 (by decide) ?_
        obtain ⟨q47, hq47, hf⟩ := mm_bd hf
        refine mm_Vi (rest := []) hC hM (c_X13_isTaken l hq47 hp_this) q7_119 q1_12 ykX13_isTaken q7_116 q7_118 qp_afe37682 hp_this.1 rfl ⟨rfl, rfl⟩ ⟨Nat.le_of_ble_eq_true rfl, Nat.le_of_ble_eq_true rfl⟩ rfl hl.1 rfl (Nat.le_of_ble_eq_true rfl) dX13_shown_47 ⟨Nat.le_of_ble_eq_true rfl, Nat.le_of_ble_eq_true rfl⟩ (fun r w47 H locs hM hw => ?_)
        obtain ⟨hr, hw⟩ := hw
        rw [hr]
        rw [hw] at hM
        refine lv_if_eq (tgt := 56) hx hb dX13_shown_50 (by decide) (fun hcd => ?_) (fun hcd => ?_)
        · rw [if_pos hcd] at hf
          refine lv_aload_n hx hb dX13_shown_56 rfl (lv_at hl 0 rfl) ?_
          refine mm_get hC hM (k := 5) hp_this.1 rfl inAX13 (by decide) q7_10 rfl dX13_shown_57 ?_
          refine lv_bipush (v := 7) hx hb dX13_shown_60 (by decide) ?_
          refine lv_iload_n hx hb dX13_shown_62 rfl (lv_at hl 1 rfl) ?_
          refine lv_iadd hx hb dX13_shown_63 ?_
          obtain ⟨hg64, hf⟩ := mm_gd hf
          refine mm_iald hC hM (hp_this.2.1) hg64 dX13_shown_64 ?_
          refine lv_iconst (v := 1) hx hb dX13_shown_65 (by decide) ?_
          refine lv_icmp_ne (tgt := 74) hx hb dX13_shown_66 (by decide) (fun hcd => ?_) (fun hcd => ?_)
          · rw [if_neg hcd] at hf
            refine lv_aload_n hx hb dX13_shown_74 rfl (lv_at hl 0 rfl) ?_
            refine mm_get hC hM (k := 5) hp_this.1 rfl inAX13 (by decide) q7_10 rfl dX13_shown_75 ?_
            refine lv_bipush (v := 7) hx hb dX13_shown_78 (by decide) ?_
            refine lv_iload_n hx hb dX13_shown_80 rfl (lv_at hl 1 rfl) ?_
            refine lv_iadd hx hb dX13_shown_81 ?_
            obtain ⟨hg82, hf⟩ := mm_gd hf
            refine mm_iald hC hM (hp_this.2.1) hg82 dX13_shown_82 ?_
            refine lv_iconst (v := 2) hx hb dX13_shown_83 (by decide) ?_
            refine lv_icmp_ne (tgt := 92) hx hb dX13_shown_84 (by decide) (fun hcd => ?_) (fun hcd => ?_)
            · rw [if_neg hcd] at hf
              refine lv_bipush (v := 46) hx hb dX13_shown_92 (by decide) ?_
              cases hf
              exact hret hM dX13_shown_94 rfl ⟨rfl, rfl⟩
            · rw [if_pos hcd] at hf
              refine lv_bipush (v := 39) hx hb dX13_shown_87 (by decide) ?_
              refine lv_goto (tgt := 94) hx hb dX13_shown_89 (by decide) ?_
              cases hf
              exact hret hM dX13_shown_94 rfl ⟨rfl, rfl⟩
          · rw [if_pos hcd] at hf
            refine lv_bipush (v := 35) hx hb dX13_shown_69 (by decide) ?_
            refine lv_goto (tgt := 94) hx hb dX13_shown_71 (by decide) ?_
            cases hf
            exact hret hM dX13_shown_94 rfl ⟨rfl, rfl⟩
        · rw [if_neg hcd] at hf
          refine lv_bipush (v := 126) hx hb dX13_shown_53 (by decide) ?_
          cases hf
          exact hret hM dX13_shown_55 rfl ⟨rfl, rfl⟩
      · rw [if_neg hcd] at hf
        refine lv_aload_n hx hb dX13_shown_12 rfl (lv_at hl 0 rfl) ?_
        refine lv_iload_n hx hb dX13_shown_13 rfl (lv_at hl 2 rfl) ?_
        obtain ⟨q14, hq14, hf⟩ := mm_bd hf
        refine mm_Vi (rest := []) hC hM (c_X13_where l hq14 hp_this) q7_123 q1_12 ykX13_where q7_120 q7_122 qp_3e96a34e hp_this.1 rfl ⟨rfl, rfl⟩ ⟨Nat.le_of_ble_eq_true rfl, Nat.le_of_ble_eq_true rfl⟩ rfl hl.1 rfl (Nat.le_of_ble_eq_true rfl) dX13_shown_14 ⟨Nat.le_of_ble_eq_true rfl, Nat.le_of_ble_eq_true rfl⟩ (fun r w14 H locs hM hw => ?_)
        obtain ⟨hr, hw⟩ := hw
        rw [hr]
        rw [hw] at hM
        refine lv_iload_n hx hb dX13_shown_17 rfl (lv_at hl 1 rfl) ?_
        refine lv_icmp_ne (tgt := 38) hx hb dX13_shown_18 (by decide) (fun hcd => ?_) (fun hcd => ?_)
        · rw [if_neg hcd] at hf
          refine lv_iinc (v := (L2_x2 + 1)) (lv' := [(2, .int (L2_x2 + 1)), (0, .ref b), (1, .int x1)]) hx hb dX13_shown_38 hl (k := 2) rfl rfl (by decide) rfl (fun ls hl => ?_)
          refine lv_goto (tgt := 2) hx hb dX13_shown_41 (by decide) ?_
          exact ih _ hf _ _ hM _ (lv_sub hl [1, 2, 0] rfl)
        · rw [if_pos hcd] at hf
          refine lv_bipush (v := 48) hx hb dX13_shown_21 (by decide) ?_
          refine lv_aload_n hx hb dX13_shown_23 rfl (lv_at hl 0 rfl) ?_
          refine mm_get hC hM (k := 5) hp_this.1 rfl inAX13 (by decide) q7_10 rfl dX13_shown_24 ?_
          refine lv_iload_n hx hb dX13_shown_27 rfl (lv_at hl 2 rfl) ?_
          refine lv_iconst (v := 0) hx hb dX13_shown_28 (by decide) ?_
          obtain ⟨q29, hq29, hf⟩ := mm_bd hf
          refine mm_Si (rest := [.ref (b + 1), .int 48]) hC hM (c_X13_of l hq29) q7_126 q1_12 ykX13_of q7_124 q7_125 ⟨rfl, rfl⟩ ⟨Nat.le_of_ble_eq_true rfl, Nat.le_of_ble_eq_true rfl⟩ rfl hl.1 rfl (Nat.le_of_ble_eq_true rfl) dX13_shown_29 ⟨Nat.le_of_ble_eq_true rfl, Nat.le_of_ble_eq_true rfl⟩ (fun r w29 H locs hM hw => ?_)
          obtain ⟨hr, hw⟩ := hw
          rw [hr]
          rw [hw] at hM
          obtain ⟨hg32, hf⟩ := mm_gd hf
          refine mm_iald hC hM (hp_this.2.1) hg32 dX13_shown_32 ?_
          refine lv_bipush (v := 10) hx hb dX13_shown_33 (by decide) ?_
          refine lv_irem hx hb dX13_shown_35 (by decide) ?_
          refine lv_iadd hx hb dX13_shown_36 ?_
          cases hf
          exact hret hM dX13_shown_37 rfl ⟨rfl, rfl⟩
  exact L2 K _ hf _ _ hM _ (lv_sub hl [1, 2, 0] rfl)
def f_X13_describeRow_L35 (K : Nat) (v : Nat → Int32) (x1 : Int32) : Nat → (Int32) → (Nat → Int32) → (Int32) → Option ((Nat → Int32) × Int32)
  | 0, _, _, _ => none
  | n + 1, x2, line, lineN => if 9 ≤ x2 then some (line, lineN) else (f_X13_cell x2 x1).bind fun q45 => (f_X13_shown K v q45).bind fun q48 => (f_X13_writes line lineN q48).bind fun q51 => f_X13_describeRow_L35 K v x1 n (x2 + 1) q51.1 q51.2
def f_X13_describeRow (K : Nat) (v : Nat → Int32) (line : Nat → Int32) (lineN : Int32) (x1 : Int32) : Option (Int32 × Int32 × (Nat → Int32) × Int32) := (f_X13_isIn x1 0 8).bind fun q5 => if q5 = 0 then some (0, 1, line, lineN) else (f_X13_describeRow_L35 K v x1 K 0 line 0).bind fun q35 => some (q35.2, 0, q35.1, q35.2)
set_option maxHeartbeats 4000000 in
set_option maxRecDepth 100000 in
theorem c_X13_describeRow (l : Launch) {G : mm_G} {K : Nat} {w : va_W} {sz : Nat} {b : Nat} {thrown : Int32} {changes : Int32} {errorAt : Int32} {failedAt : Int32} {isSaved : Int32} {v : Nat → Int32} {before : Nat → Int32} {saved : Nat → Int32} {past : Nat → Int32} {far : Nat → Int32} {scratch : Nat → Int32} {best : Nat → Int32} {thenX : Int32} {thenY : Int32} {thenMet : Int32} {text : Nat → Int32} {line : Nat → Int32} {isLeft : Nat → Int32} {words : Nat → Int32} {wordAt : Nat → Int32} {textN : Int32} {hereP : Int32} {endP : Int32} {lineN : Int32} {isWrong : Int32} {isDoing : Int32} {x1 : Int32} {X : Int32 × Int32 × (Nat → Int32) × Int32} (hf : f_X13_describeRow K v line lineN x1 = some X) (hp_this : At13 G w b thrown changes errorAt failedAt isSaved v before saved past far scratch best thenX thenY thenMet text line isLeft words wordAt textN hereP endP lineN isWrong isDoing) : Met l yX13_describeRow (Cond.code yX13_describeRow cX13_describeRow 3 (some .int) :: gAll) ({ frames := 4, cells := 0, slots := 0, locals := 87 }) (va_Pc [.ref b, .int x1] (mm_Pre G w sz)) (mm_Qi G w sz (fun r w' => r = X.1 ∧ At13 G w' b X.2.1 changes errorAt failedAt isSaved v before saved past far scratch best thenX thenY thenMet text X.2.2.1 isLeft words wordAt textN hereP endP X.2.2.2 isWrong isDoing ∧ mm_fr w w' b (b + 13))) 0 0 (va_A w sz) := by
  refine mm_headI [.ref b, .int x1] (by decide +kernel) rfl (Nat.le_of_ble_eq_true rfl) ?_
  intro p e s m args below meth c A Q hsz hC hM hret ls hl
  have hx := hC.1.1
  have hb := hC.1.2.1
  have hl : lv_has ls 3 [(0, .ref b), (1, .int x1)] := hl
  have hF : mm_fr w w b (b + 13) := mm_fr.rf
  rw [f_X13_describeRow] at hf
  refine lv_aload_n hx hb dX13_describeRow_0 rfl (lv_at hl 0 rfl) ?_
  refine lv_iload_n hx hb dX13_describeRow_1 rfl (lv_at hl 1 rfl) ?_
  refine lv_iconst (v := 0) hx hb dX13_describeRow_2 (by decide) ?_
  refine lv_bipush (v := 8) hx hb dX13_describeRow_3 (by decide) ?_
  obtain ⟨q5, hq5, hf⟩ := mm_bd hf
  refine mm_Si (rest := [.ref b]) hC hM (c_X13_isIn l hq5) q7_108 q1_12 ykX13_isIn q7_106 q7_107 ⟨rfl, rfl⟩ ⟨Nat.le_of_ble_eq_true rfl, Nat.le_of_ble_eq_true rfl⟩ rfl hl.1 rfl (Nat.le_of_ble_eq_true rfl) dX13_describeRow_5 ⟨Nat.le_of_ble_eq_true rfl, Nat.le_of_ble_eq_true rfl⟩ (fun r w5 H locs hM hw => ?_)
  obtain ⟨hr, hw⟩ := hw
  rw [hr]
  rw [hw] at hM
  refine lv_if_eq (tgt := 15) hx hb dX13_describeRow_8 (by decide) (fun hcd => ?_) (fun hcd => ?_)
  · rw [if_pos hcd] at hf
    refine lv_iconst (v := 1) hx hb dX13_describeRow_15 (by decide) ?_
    refine mm_put hC hM (k := 0) tyX13 hp_this.1 rfl inAX13 tyX13_ok nmX13 (by decide) q7_5 rfl rfl rfl rfl (Nat.le_of_ble_eq_true rfl) dX13_describeRow_16 (fun w16 H locs hM hm => ?_)
    have hp_this : At13 G w16 b 1 changes errorAt failedAt isSaved v before saved past far scratch best thenX thenY thenMet text line isLeft words wordAt textN hereP endP lineN isWrong isDoing := ⟨hm.1, hm.keep (hp_this.2.1) (by omega), hm.keep (hp_this.2.2.1) (by omega), hm.keep (hp_this.2.2.2.1) (by omega), hm.keep (hp_this.2.2.2.2.1) (by omega), hm.keep (hp_this.2.2.2.2.2.1) (by omega), hm.keep (hp_this.2.2.2.2.2.2.1) (by omega), hm.keep (hp_this.2.2.2.2.2.2.2.1) (by omega), hm.keep (hp_this.2.2.2.2.2.2.2.2.1) (by omega), hm.keep (hp_this.2.2.2.2.2.2.2.2.2.1) (by omega), hm.keep (hp_this.2.2.2.2.2.2.2.2.2.2.1) (by omega), hm.keep (hp_this.2.2.2.2.2.2.2.2.2.2.2.1) (by omega), hm.keep (hp_this.2.2.2.2.2.2.2.2.2.2.2.2) (by omega)⟩
    have hF := hF.tr (hm.fr (by omega) (by omega))
    refine lv_aload_n hx hb dX13_describeRow_19 rfl (lv_at hl 0 rfl) ?_
    refine mm_get hC hM (k := 0) hp_this.1 rfl inAX13 (by decide) q7_5 rfl dX13_describeRow_20 ?_
    refine lv_if_eq (tgt := 28) hx hb dX13_describeRow_23 (by decide) (fun c => absurd c (by decide)) (fun _ => ?_)
    refine lv_iconst (v := 0) hx hb dX13_describeRow_26 (by decide) ?_
    cases hf
    exact hret hM dX13_describeRow_27 rfl ⟨rfl, hp_this, hF⟩
  · rw [if_neg hcd] at hf
    refine lv_iconst (v := 0) hx hb dX13_describeRow_11 (by decide) ?_
    refine lv_goto (tgt := 16) hx hb dX13_describeRow_12 (by decide) ?_
    refine mm_put hC hM (k := 0) tyX13 hp_this.1 rfl inAX13 tyX13_ok nmX13 (by decide) q7_5 rfl rfl rfl rfl (Nat.le_of_ble_eq_true rfl) dX13_describeRow_16 (fun w16 H locs hM hm => ?_)
    have hp_this : At13 G w16 b 0 changes errorAt failedAt isSaved v before saved past far scratch best thenX thenY thenMet text line isLeft words wordAt textN hereP endP lineN isWrong isDoing := ⟨hm.1, hm.keep (hp_this.2.1) (by omega), hm.keep (hp_this.2.2.1) (by omega), hm.keep (hp_this.2.2.2.1) (by omega), hm.keep (hp_this.2.2.2.2.1) (by omega), hm.keep (hp_this.2.2.2.2.2.1) (by omega), hm.keep (hp_this.2.2.2.2.2.2.1) (by omega), hm.keep (hp_this.2.2.2.2.2.2.2.1) (by omega), hm.keep (hp_this.2.2.2.2.2.2.2.2.1) (by omega), hm.keep (hp_this.2.2.2.2.2.2.2.2.2.1) (by omega), hm.keep (hp_this.2.2.2.2.2.2.2.2.2.2.1) (by omega), hm.keep (hp_this.2.2.2.2.2.2.2.2.2.2.2.1) (by omega), hm.keep (hp_this.2.2.2.2.2.2.2.2.2.2.2.2) (by omega)⟩
    have hF := hF.tr (hm.fr (by omega) (by omega))
    refine lv_aload_n hx hb dX13_describeRow_19 rfl (lv_at hl 0 rfl) ?_
    refine mm_get hC hM (k := 0) hp_this.1 rfl inAX13 (by decide) q7_5 rfl dX13_describeRow_20 ?_
    refine lv_if_eq (tgt := 28) hx hb dX13_describeRow_23 (by decide) (fun _ => ?_) (fun c => absurd (by decide) c)
    refine lv_aload_n hx hb dX13_describeRow_28 rfl (lv_at hl 0 rfl) ?_
    refine lv_iconst (v := 0) hx hb dX13_describeRow_29 (by decide) ?_
    refine mm_put hC hM (k := 23) tyX13 hp_this.1 rfl inAX13 tyX13_ok nmX13 (by decide) q7_28 rfl rfl rfl rfl (Nat.le_of_ble_eq_true rfl) dX13_describeRow_30 (fun w30 H locs hM hm => ?_)
    have hp_this : At13 G w30 b 0 changes errorAt failedAt isSaved v before saved past far scratch best thenX thenY thenMet text line isLeft words wordAt textN hereP endP 0 isWrong isDoing := ⟨hm.1, hm.keep (hp_this.2.1) (by omega), hm.keep (hp_this.2.2.1) (by omega), hm.keep (hp_this.2.2.2.1) (by omega), hm.keep (hp_this.2.2.2.2.1) (by omega), hm.keep (hp_this.2.2.2.2.2.1) (by omega), hm.keep (hp_this.2.2.2.2.2.2.1) (by omega), hm.keep (hp_this.2.2.2.2.2.2.2.1) (by omega), hm.keep (hp_this.2.2.2.2.2.2.2.2.1) (by omega), hm.keep (hp_this.2.2.2.2.2.2.2.2.2.1) (by omega), hm.keep (hp_this.2.2.2.2.2.2.2.2.2.2.1) (by omega), hm.keep (hp_this.2.2.2.2.2.2.2.2.2.2.2.1) (by omega), hm.keep (hp_this.2.2.2.2.2.2.2.2.2.2.2.2) (by omega)⟩
    have hF := hF.tr (hm.fr (by omega) (by omega))
    refine lv_iconst (v := 0) hx hb dX13_describeRow_33 (by decide) ?_
    refine lv_istore_n (lv' := [(2, .int 0), (0, .ref b), (1, .int x1)]) hx hb dX13_describeRow_34 rfl hl (by decide) rfl (fun ls hl => ?_)
    have L35 : ∀ (n : Nat) (L35_x2 : Int32) (L35_line : Nat → Int32) (L35_lineN : Int32) (X : (Nat → Int32) × Int32), f_X13_describeRow_L35 K v x1 n L35_x2 L35_line L35_lineN = some X → ∀ (L35_w : va_W) (H : Heap) (locs : List Loc), mm_S G A s.heap L35_w H locs → At13 G L35_w b 0 changes errorAt failedAt isSaved v before saved past far scratch best thenX thenY thenMet text L35_line isLeft words wordAt textN hereP endP L35_lineN isWrong isDoing → mm_fr w L35_w b (b + 13) → ∀ (ls : Array Slot), lv_has ls 3 [(0, .ref b), (1, .int x1), (2, .int L35_x2)] → (∀ (w9 : va_W) (H : Heap) (locs : List Loc), mm_S G A s.heap w9 H locs → At13 G w9 b 0 changes errorAt failedAt isSaved v before saved past far scratch best thenX thenY thenMet text X.1 isLeft words wordAt textN hereP endP X.2 isWrong isDoing → mm_fr w w9 b (b + 13) → ∀ (ls : Array Slot), lv_has ls 3 [(0, .ref b)] → W p l e ({ frames := 4, cells := 0, slots := 0, locals := 87 } : Room) s m args below meth c H locs 0 0 Q (F0 m 60 ls [])) → W p l e ({ frames := 4, cells := 0, slots := 0, locals := 87 } : Room) s m args below meth c H locs 0 0 Q (F0 m 35 ls []) := by
      intro n
      induction n with
      | zero => intro L35_x2 L35_line L35_lineN X hf; cases hf
      | succ n ih =>
        intro L35_x2 L35_line L35_lineN X hf L35_w H locs hM hp_this hF ls hl hk
        rw [f_X13_describeRow_L35] at hf
        refine lv_iload_n hx hb dX13_describeRow_35 rfl (lv_at hl 2 rfl) ?_
        refine lv_bipush (v := 9) hx hb dX13_describeRow_36 (by decide) ?_
        refine lv_icmp_ge (tgt := 60) hx hb dX13_describeRow_38 (by decide) (fun hcd => ?_) (fun hcd => ?_)
        · rw [if_pos hcd] at hf
          cases hf
          exact hk _ _ _ hM hp_this hF _ (lv_sub hl [0] rfl)
        · rw [if_neg hcd] at hf
          refine lv_aload_n hx hb dX13_describeRow_41 rfl (lv_at hl 0 rfl) ?_
          refine lv_aload_n hx hb dX13_describeRow_42 rfl (lv_at hl 0 rfl) ?_
          refine lv_iload_n hx hb dX13_describeRow_43 rfl (lv_at hl 2 rfl) ?_
          refine lv_iload_n hx hb dX13_describeRow_44 rfl (lv_at hl 1 rfl) ?_
          obtain ⟨q45, hq45, hf⟩ := mm_bd hf
          refine mm_Si (rest := [.ref b, .ref b]) hC hM (c_X13_cell l hq45) q7_115 q1_12 ykX13_cell q7_113 q7_114 ⟨rfl, rfl⟩ ⟨Nat.le_of_ble_eq_true rfl, Nat.le_of_ble_eq_true rfl⟩ rfl hl.1 rfl (Nat.le_of_ble_eq_true rfl) dX13_describeRow_45 ⟨Nat.le_of_ble_eq_true rfl, Nat.le_of_ble_eq_true rfl⟩ (fun r w45 H locs hM hw => ?_)
          obtain ⟨hr, hw⟩ := hw
          rw [hr]
          rw [hw] at hM
          obtain ⟨q48, hq48, hf⟩ := mm_bd hf
          refine mm_Vi (rest := [.ref b]) hC hM (c_X13_shown l hq48 hp_this) q9_50 q1_12 ykX13_shown q9_47 q9_49 qp_f94a6a6b hp_this.1 rfl ⟨rfl, rfl⟩ ⟨Nat.le_of_ble_eq_true rfl, Nat.le_of_ble_eq_true rfl⟩ rfl hl.1 rfl (Nat.le_of_ble_eq_true rfl) dX13_describeRow_48 ⟨Nat.le_of_ble_eq_true rfl, Nat.le_of_ble_eq_true rfl⟩ (fun r w48 H locs hM hw => ?_)
          obtain ⟨hr, hw⟩ := hw
          rw [hr]
          rw [hw] at hM
          obtain ⟨q51, hq51, hf⟩ := mm_bd hf
          refine mm_Vv (rest := []) hC hM (c_X13_writes l hq51 hp_this) q9_54 q1_12 ykX13_writes q9_51 q9_53 qp_eefd4c03 hp_this.1 rfl ⟨rfl, rfl⟩ ⟨Nat.le_of_ble_eq_true rfl, Nat.le_of_ble_eq_true rfl⟩ rfl hl.1 rfl (Nat.le_of_ble_eq_true rfl) dX13_describeRow_51 ⟨Nat.le_of_ble_eq_true rfl, Nat.le_of_ble_eq_true rfl⟩ (fun w51 H locs hM hw => ?_)
          obtain ⟨hn_this, hfr⟩ := hw
          have hp_this := hn_this
          have hF := hF.tr (hfr.wide (by omega) (by omega))
          refine lv_iinc (v := (L35_x2 + 1)) (lv' := [(2, .int (L35_x2 + 1)), (0, .ref b), (1, .int x1)]) hx hb dX13_describeRow_54 hl (k := 2) rfl rfl (by decide) rfl (fun ls hl => ?_)
          refine lv_goto (tgt := 35) hx hb dX13_describeRow_57 (by decide) ?_
          exact ih _ _ _ _ hf _ _ _ hM hp_this hF _ (lv_sub hl [1, 2, 0] rfl) hk
    obtain ⟨q35, hq35, hf⟩ := mm_bd hf
    refine L35 K _ _ _ _ hq35 _ _ _ hM hp_this hF _ (lv_sub hl [1, 2, 0] rfl) (fun w35 H locs hM hp_this hF ls hl => ?_)
    refine lv_aload_n hx hb dX13_describeRow_60 rfl (lv_at hl 0 rfl) ?_
    refine mm_get hC hM (k := 23) hp_this.1 rfl inAX13 (by decide) q7_28 rfl dX13_describeRow_61 ?_
    cases hf
    exact hret hM dX13_describeRow_64 rfl ⟨rfl, hp_this, hF⟩
def f_X13_describePlan_L59 (v : Nat → Int32) (x1 : Int32) (x3 : Int32) : Nat → (Int32) → (Int32) → Option (Int32 × Int32)
  | 0, _, _ => none
  | n + 1, x2, x4 => mm_g (mm_ck (104 + x1) 238) (if (v (104 + x1).toNatClampNeg) ≤ x2 then some (x2, x4) else (f_X13_at x1 x2).bind fun q78 => mm_g (mm_ck q78 238) (if (v q78.toNatClampNeg) = x3 then f_X13_describePlan_L59 v x1 x3 n (x2 + 1) (x4 + 1) else some (x2, x4)))
def f_X13_describePlan_L32 (K : Nat) (v : Nat → Int32) (x1 : Int32) : Nat → (Int32) → (Nat → Int32) → (Int32) → Option ((Nat → Int32) × Int32)
  | 0, _, _, _ => none
  | n + 1, x2, line, lineN => mm_g (mm_ck (104 + x1) 238) (if (v (104 + x1).toNatClampNeg) ≤ x2 then some (line, lineN) else (f_X13_at x1 x2).bind fun q51 => mm_g (mm_ck q51 238) ((f_X13_describePlan_L59 v x1 (v q51.toNatClampNeg) K x2 0).bind fun q59 => (f_X13_letter (v q51.toNatClampNeg)).bind fun q97 => (f_X13_writes line lineN q97).bind fun q100 => if q59.2 ≤ 9 then if q59.2 ≤ 1 then f_X13_describePlan_L32 K v x1 n q59.1 q100.1 q100.2 else (f_X13_writes q100.1 q100.2 (48 + (q59.2 - q59.2 / 10 * 10))).bind fun q137 => f_X13_describePlan_L32 K v x1 n q59.1 q137.1 q137.2 else (f_X13_writes q100.1 q100.2 (48 + (q59.2 / 10))).bind fun q119 => if q59.2 ≤ 1 then f_X13_describePlan_L32 K v x1 n q59.1 q119.1 q119.2 else (f_X13_writes q119.1 q119.2 (48 + (q59.2 - q59.2 / 10 * 10))).bind fun q137 => f_X13_describePlan_L32 K v x1 n q59.1 q137.1 q137.2))
def f_X13_describePlan (K : Nat) (v : Nat → Int32) (line : Nat → Int32) (lineN : Int32) (x1 : Int32) : Option (Int32 × Int32 × (Nat → Int32) × Int32) := (f_X13_isPlan x1).bind fun q2 => if q2 = 0 then some (0, 1, line, lineN) else (f_X13_describePlan_L32 K v x1 K 0 line 0).bind fun q32 => some (q32.2, 0, q32.1, q32.2)
set_option maxHeartbeats 4000000 in
set_option maxRecDepth 100000 in
theorem c_X13_describePlan (l : Launch) {G : mm_G} {K : Nat} {w : va_W} {sz : Nat} {b : Nat} {thrown : Int32} {changes : Int32} {errorAt : Int32} {failedAt : Int32} {isSaved : Int32} {v : Nat → Int32} {before : Nat → Int32} {saved : Nat → Int32} {past : Nat → Int32} {far : Nat → Int32} {scratch : Nat → Int32} {best : Nat → Int32} {thenX : Int32} {thenY : Int32} {thenMet : Int32} {text : Nat → Int32} {line : Nat → Int32} {isLeft : Nat → Int32} {words : Nat → Int32} {wordAt : Nat → Int32} {textN : Int32} {hereP : Int32} {endP : Int32} {lineN : Int32} {isWrong : Int32} {isDoing : Int32} {x1 : Int32} {X : Int32 × Int32 × (Nat → Int32) × Int32} (hf : f_X13_describePlan K v line lineN x1 = some X) (hp_this : At13 G w b thrown changes errorAt failedAt isSaved v before saved past far scratch best thenX thenY thenMet text line isLeft words wordAt textN hereP endP lineN isWrong isDoing) : Met l yX13_describePlan (Cond.code yX13_describePlan cX13_describePlan 5 (some .int) :: gAll) ({ frames := 2, cells := 0, slots := 0, locals := 42 }) (va_Pc [.ref b, .int x1] (mm_Pre G w sz)) (mm_Qi G w sz (fun r w' => r = X.1 ∧ At13 G w' b X.2.1 changes errorAt failedAt isSaved v before saved past far scratch best thenX thenY thenMet text X.2.2.1 isLeft words wordAt textN hereP endP X.2.2.2 isWrong isDoing ∧ mm_fr w w' b (b + 13))) 0 0 (va_A w sz) := by
  refine mm_headI [.ref b, .int x1] (by decide +kernel) rfl (Nat.le_of_ble_eq_true rfl) ?_
  intro p e s m args below meth c A Q hsz hC hM hret ls hl
  have hx := hC.1.1
  have hb := hC.1.2.1
  have hl : lv_has ls 5 [(0, .ref b), (1, .int x1)] := hl
  have hF : mm_fr w w b (b + 13) := mm_fr.rf
  rw [f_X13_describePlan] at hf
  refine lv_aload_n hx hb dX13_describePlan_0 rfl (lv_at hl 0 rfl) ?_
  refine lv_iload_n hx hb dX13_describePlan_1 rfl (lv_at hl 1 rfl) ?_
  obtain ⟨q2, hq2, hf⟩ := mm_bd hf
  refine mm_Si (rest := [.ref b]) hC hM (c_X13_isPlan l hq2) q8_28 q1_12 ykX13_isPlan q8_26 q8_27 ⟨rfl, rfl⟩ ⟨Nat.le_of_ble_eq_true rfl, Nat.le_of_ble_eq_true rfl⟩ rfl hl.1 rfl (Nat.le_of_ble_eq_true rfl) dX13_describePlan_2 ⟨Nat.le_of_ble_eq_true rfl, Nat.le_of_ble_eq_true rfl⟩ (fun r w2 H locs hM hw => ?_)
  obtain ⟨hr, hw⟩ := hw
  rw [hr]
  rw [hw] at hM
  refine lv_if_eq (tgt := 12) hx hb dX13_describePlan_5 (by decide) (fun hcd => ?_) (fun hcd => ?_)
  · rw [if_pos hcd] at hf
    refine lv_iconst (v := 1) hx hb dX13_describePlan_12 (by decide) ?_
    refine mm_put hC hM (k := 0) tyX13 hp_this.1 rfl inAX13 tyX13_ok nmX13 (by decide) q7_5 rfl rfl rfl rfl (Nat.le_of_ble_eq_true rfl) dX13_describePlan_13 (fun w13 H locs hM hm => ?_)
    have hp_this : At13 G w13 b 1 changes errorAt failedAt isSaved v before saved past far scratch best thenX thenY thenMet text line isLeft words wordAt textN hereP endP lineN isWrong isDoing := ⟨hm.1, hm.keep (hp_this.2.1) (by omega), hm.keep (hp_this.2.2.1) (by omega), hm.keep (hp_this.2.2.2.1) (by omega), hm.keep (hp_this.2.2.2.2.1) (by omega), hm.keep (hp_this.2.2.2.2.2.1) (by omega), hm.keep (hp_this.2.2.2.2.2.2.1) (by omega), hm.keep (hp_this.2.2.2.2.2.2.2.1) (by omega), hm.keep (hp_this.2.2.2.2.2.2.2.2.1) (by omega), hm.keep (hp_this.2.2.2.2.2.2.2.2.2.1) (by omega), hm.keep (hp_this.2.2.2.2.2.2.2.2.2.2.1) (by omega), hm.keep (hp_this.2.2.2.2.2.2.2.2.2.2.2.1) (by omega), hm.keep (hp_this.2.2.2.2.2.2.2.2.2.2.2.2) (by omega)⟩
    have hF := hF.tr (hm.fr (by omega) (by omega))
    refine lv_aload_n hx hb dX13_describePlan_16 rfl (lv_at hl 0 rfl) ?_
    refine mm_get hC hM (k := 0) hp_this.1 rfl inAX13 (by decide) q7_5 rfl dX13_describePlan_17 ?_
    refine lv_if_eq (tgt := 25) hx hb dX13_describePlan_20 (by decide) (fun c => absurd c (by decide)) (fun _ => ?_)
    refine lv_iconst (v := 0) hx hb dX13_describePlan_23 (by decide) ?_
    cases hf
    exact hret hM dX13_describePlan_24 rfl ⟨rfl, hp_this, hF⟩
  · rw [if_neg hcd] at hf
    refine lv_iconst (v := 0) hx hb dX13_describePlan_8 (by decide) ?_
    refine lv_goto (tgt := 13) hx hb dX13_describePlan_9 (by decide) ?_
    refine mm_put hC hM (k := 0) tyX13 hp_this.1 rfl inAX13 tyX13_ok nmX13 (by decide) q7_5 rfl rfl rfl rfl (Nat.le_of_ble_eq_true rfl) dX13_describePlan_13 (fun w13 H locs hM hm => ?_)
    have hp_this : At13 G w13 b 0 changes errorAt failedAt isSaved v before saved past far scratch best thenX thenY thenMet text line isLeft words wordAt textN hereP endP lineN isWrong isDoing := ⟨hm.1, hm.keep (hp_this.2.1) (by omega), hm.keep (hp_this.2.2.1) (by omega), hm.keep (hp_this.2.2.2.1) (by omega), hm.keep (hp_this.2.2.2.2.1) (by omega), hm.keep (hp_this.2.2.2.2.2.1) (by omega), hm.keep (hp_this.2.2.2.2.2.2.1) (by omega), hm.keep (hp_this.2.2.2.2.2.2.2.1) (by omega), hm.keep (hp_this.2.2.2.2.2.2.2.2.1) (by omega), hm.keep (hp_this.2.2.2.2.2.2.2.2.2.1) (by omega), hm.keep (hp_this.2.2.2.2.2.2.2.2.2.2.1) (by omega), hm.keep (hp_this.2.2.2.2.2.2.2.2.2.2.2.1) (by omega), hm.keep (hp_this.2.2.2.2.2.2.2.2.2.2.2.2) (by omega)⟩
    have hF := hF.tr (hm.fr (by omega) (by omega))
    refine lv_aload_n hx hb dX13_describePlan_16 rfl (lv_at hl 0 rfl) ?_
    refine mm_get hC hM (k := 0) hp_this.1 rfl inAX13 (by decide) q7_5 rfl dX13_describePlan_17 ?_
    refine lv_if_eq (tgt := 25) hx hb dX13_describePlan_20 (by decide) (fun _ => ?_) (fun c => absurd (by decide) c)
    refine lv_aload_n hx hb dX13_describePlan_25 rfl (lv_at hl 0 rfl) ?_
    refine lv_iconst (v := 0) hx hb dX13_describePlan_26 (by decide) ?_
    refine mm_put hC hM (k := 23) tyX13 hp_this.1 rfl inAX13 tyX13_ok nmX13 (by decide) q7_28 rfl rfl rfl rfl (Nat.le_of_ble_eq_true rfl) dX13_describePlan_27 (fun w27 H locs hM hm => ?_)
    have hp_this : At13 G w27 b 0 changes errorAt failedAt isSaved v before saved past far scratch best thenX thenY thenMet text line isLeft words wordAt textN hereP endP 0 isWrong isDoing := ⟨hm.1, hm.keep (hp_this.2.1) (by omega), hm.keep (hp_this.2.2.1) (by omega), hm.keep (hp_this.2.2.2.1) (by omega), hm.keep (hp_this.2.2.2.2.1) (by omega), hm.keep (hp_this.2.2.2.2.2.1) (by omega), hm.keep (hp_this.2.2.2.2.2.2.1) (by omega), hm.keep (hp_this.2.2.2.2.2.2.2.1) (by omega), hm.keep (hp_this.2.2.2.2.2.2.2.2.1) (by omega), hm.keep (hp_this.2.2.2.2.2.2.2.2.2.1) (by omega), hm.keep (hp_this.2.2.2.2.2.2.2.2.2.2.1) (by omega), hm.keep (hp_this.2.2.2.2.2.2.2.2.2.2.2.1) (by omega), hm.keep (hp_this.2.2.2.2.2.2.2.2.2.2.2.2) (by omega)⟩
    have hF := hF.tr (hm.fr (by omega) (by omega))
    refine lv_iconst (v := 0) hx hb dX13_describePlan_30 (by decide) ?_
    refine lv_istore_n (lv' := [(2, .int 0), (0, .ref b), (1, .int x1)]) hx hb dX13_describePlan_31 rfl hl (by decide) rfl (fun ls hl => ?_)
    have L32 : ∀ (n : Nat) (L32_x2 : Int32) (L32_line : Nat → Int32) (L32_lineN : Int32) (X : (Nat → Int32) × Int32), f_X13_describePlan_L32 K v x1 n L32_x2 L32_line L32_lineN = some X → ∀ (L32_w : va_W) (H : Heap) (locs : List Loc), mm_S G A s.heap L32_w H locs → At13 G L32_w b 0 changes errorAt failedAt isSaved v before saved past far scratch best thenX thenY thenMet text L32_line isLeft words wordAt textN hereP endP L32_lineN isWrong isDoing → mm_fr w L32_w b (b + 13) → ∀ (ls : Array Slot), lv_has ls 5 [(0, .ref b), (1, .int x1), (2, .int L32_x2)] → (∀ (w9 : va_W) (H : Heap) (locs : List Loc), mm_S G A s.heap w9 H locs → At13 G w9 b 0 changes errorAt failedAt isSaved v before saved past far scratch best thenX thenY thenMet text X.1 isLeft words wordAt textN hereP endP X.2 isWrong isDoing → mm_fr w w9 b (b + 13) → ∀ (ls : Array Slot), lv_has ls 5 [(0, .ref b)] → W p l e ({ frames := 2, cells := 0, slots := 0, locals := 42 } : Room) s m args below meth c H locs 0 0 Q (F0 m 143 ls [])) → W p l e ({ frames := 2, cells := 0, slots := 0, locals := 42 } : Room) s m args below meth c H locs 0 0 Q (F0 m 32 ls []) := by
      intro n
      induction n with
      | zero => intro L32_x2 L32_line L32_lineN X hf; cases hf
      | succ n ih =>
        intro L32_x2 L32_line L32_lineN X hf L32_w H locs hM hp_this hF ls hl hk
        rw [f_X13_describePlan_L32] at hf
        refine lv_iload_n hx hb dX13_describePlan_32 rfl (lv_at hl 2 rfl) ?_
        refine lv_aload_n hx hb dX13_describePlan_33 rfl (lv_at hl 0 rfl) ?_
        refine mm_get hC hM (k := 5) hp_this.1 rfl inAX13 (by decide) q7_10 rfl dX13_describePlan_34 ?_
        refine lv_bipush (v := 104) hx hb dX13_describePlan_37 (by decide) ?_
        refine lv_iload_n hx hb dX13_describePlan_39 rfl (lv_at hl 1 rfl) ?_
        refine lv_iadd hx hb dX13_describePlan_40 ?_
        obtain ⟨hg41, hf⟩ := mm_gd hf
        refine mm_iald hC hM (hp_this.2.1) hg41 dX13_describePlan_41 ?_
        refine lv_icmp_ge (tgt := 143) hx hb dX13_describePlan_42 (by decide) (fun hcd => ?_) (fun hcd => ?_)
        · rw [if_pos hcd] at hf
          cases hf
          exact hk _ _ _ hM hp_this hF _ (lv_sub hl [0] rfl)
        · rw [if_neg hcd] at hf
          refine lv_aload_n hx hb dX13_describePlan_45 rfl (lv_at hl 0 rfl) ?_
          refine mm_get hC hM (k := 5) hp_this.1 rfl inAX13 (by decide) q7_10 rfl dX13_describePlan_46 ?_
          refine lv_iload_n hx hb dX13_describePlan_49 rfl (lv_at hl 1 rfl) ?_
          refine lv_iload_n hx hb dX13_describePlan_50 rfl (lv_at hl 2 rfl) ?_
          obtain ⟨q51, hq51, hf⟩ := mm_bd hf
          refine mm_Si (rest := [.ref (b + 1)]) hC hM (c_X13_at l hq51) q8_31 q1_12 ykX13_at q8_29 q8_30 ⟨rfl, rfl⟩ ⟨Nat.le_of_ble_eq_true rfl, Nat.le_of_ble_eq_true rfl⟩ rfl hl.1 rfl (Nat.le_of_ble_eq_true rfl) dX13_describePlan_51 ⟨Nat.le_of_ble_eq_true rfl, Nat.le_of_ble_eq_true rfl⟩ (fun r w51 H locs hM hw => ?_)
          obtain ⟨hr, hw⟩ := hw
          rw [hr]
          rw [hw] at hM
          obtain ⟨hg54, hf⟩ := mm_gd hf
          refine mm_iald hC hM (hp_this.2.1) hg54 dX13_describePlan_54 ?_
          refine lv_istore_n (lv' := [(3, .int (v q51.toNatClampNeg)), (0, .ref b), (1, .int x1), (2, .int L32_x2)]) hx hb dX13_describePlan_55 rfl hl (by decide) rfl (fun ls hl => ?_)
          refine lv_iconst (v := 0) hx hb dX13_describePlan_56 (by decide) ?_
          refine lv_istore (lv' := [(4, .int 0), (3, .int (v q51.toNatClampNeg)), (0, .ref b), (1, .int x1), (2, .int L32_x2)]) hx hb dX13_describePlan_57 hl (by decide) rfl (fun ls hl => ?_)
          have L59 : ∀ (n : Nat) (L59_x2 : Int32) (L59_x4 : Int32) (X : Int32 × Int32), f_X13_describePlan_L59 v x1 (v q51.toNatClampNeg) n L59_x2 L59_x4 = some X → ∀ (H : Heap) (locs : List Loc), mm_S G A s.heap L32_w H locs → ∀ (ls : Array Slot), lv_has ls 5 [(0, .ref b), (1, .int x1), (2, .int L59_x2), (3, .int (v q51.toNatClampNeg)), (4, .int L59_x4)] → (∀ (H : Heap) (locs : List Loc), mm_S G A s.heap L32_w H locs → ∀ (ls : Array Slot), lv_has ls 5 [(0, .ref b), (1, .int x1), (2, .int X.1), (3, .int (v q51.toNatClampNeg)), (4, .int X.2)] → W p l e ({ frames := 2, cells := 0, slots := 0, locals := 42 } : Room) s m args below meth c H locs 0 0 Q (F0 m 95 ls [])) → W p l e ({ frames := 2, cells := 0, slots := 0, locals := 42 } : Room) s m args below meth c H locs 0 0 Q (F0 m 59 ls []) := by
            intro n
            induction n with
            | zero => intro L59_x2 L59_x4 X hf; cases hf
            | succ n ih =>
              intro L59_x2 L59_x4 X hf H locs hM ls hl hk
              rw [f_X13_describePlan_L59] at hf
              refine lv_iload_n hx hb dX13_describePlan_59 rfl (lv_at hl 2 rfl) ?_
              refine lv_aload_n hx hb dX13_describePlan_60 rfl (lv_at hl 0 rfl) ?_
              refine mm_get hC hM (k := 5) hp_this.1 rfl inAX13 (by decide) q7_10 rfl dX13_describePlan_61 ?_
              refine lv_bipush (v := 104) hx hb dX13_describePlan_64 (by decide) ?_
              refine lv_iload_n hx hb dX13_describePlan_66 rfl (lv_at hl 1 rfl) ?_
              refine lv_iadd hx hb dX13_describePlan_67 ?_
              obtain ⟨hg68, hf⟩ := mm_gd hf
              refine mm_iald hC hM (hp_this.2.1) hg68 dX13_describePlan_68 ?_
              refine lv_icmp_ge (tgt := 95) hx hb dX13_describePlan_69 (by decide) (fun hcd => ?_) (fun hcd => ?_)
              · rw [if_pos hcd] at hf
                cases hf
                exact hk _ _ hM _ (lv_sub hl [0, 1, 2, 3, 4] rfl)
              · rw [if_neg hcd] at hf
                refine lv_aload_n hx hb dX13_describePlan_72 rfl (lv_at hl 0 rfl) ?_
                refine mm_get hC hM (k := 5) hp_this.1 rfl inAX13 (by decide) q7_10 rfl dX13_describePlan_73 ?_
                refine lv_iload_n hx hb dX13_describePlan_76 rfl (lv_at hl 1 rfl) ?_
                refine lv_iload_n hx hb dX13_describePlan_77 rfl (lv_at hl 2 rfl) ?_
                obtain ⟨q78, hq78, hf⟩ := mm_bd hf
                refine mm_Si (rest := [.ref (b + 1)]) hC hM (c_X13_at l hq78) q8_31 q1_12 ykX13_at q8_29 q8_30 ⟨rfl, rfl⟩ ⟨Nat.le_of_ble_eq_true rfl, Nat.le_of_ble_eq_true rfl⟩ rfl hl.1 rfl (Nat.le_of_ble_eq_true rfl) dX13_describePlan_78 ⟨Nat.le_of_ble_eq_true rfl, Nat.le_of_ble_eq_true rfl⟩ (fun r w78 H locs hM hw => ?_)
                obtain ⟨hr, hw⟩ := hw
                rw [hr]
                rw [hw] at hM
                obtain ⟨hg81, hf⟩ := mm_gd hf
                refine mm_iald hC hM (hp_this.2.1) hg81 dX13_describePlan_81 ?_
                refine lv_iload_n hx hb dX13_describePlan_82 rfl (lv_at hl 3 rfl) ?_
                refine lv_icmp_ne (tgt := 95) hx hb dX13_describePlan_83 (by decide) (fun hcd => ?_) (fun hcd => ?_)
                · rw [if_neg hcd] at hf
                  cases hf
                  exact hk _ _ hM _ (lv_sub hl [0, 1, 2, 3, 4] rfl)
                · rw [if_pos hcd] at hf
                  refine lv_iinc (v := (L59_x4 + 1)) (lv' := [(4, .int (L59_x4 + 1)), (0, .ref b), (1, .int x1), (2, .int L59_x2), (3, .int (v q51.toNatClampNeg))]) hx hb dX13_describePlan_86 hl (k := 4) rfl rfl (by decide) rfl (fun ls hl => ?_)
                  refine lv_iinc (v := (L59_x2 + 1)) (lv' := [(2, .int (L59_x2 + 1)), (4, .int (L59_x4 + 1)), (0, .ref b), (1, .int x1), (3, .int (v q51.toNatClampNeg))]) hx hb dX13_describePlan_89 hl (k := 3) rfl rfl (by decide) rfl (fun ls hl => ?_)
                  refine lv_goto (tgt := 59) hx hb dX13_describePlan_92 (by decide) ?_
                  exact ih _ _ _ hf _ _ hM _ (lv_sub hl [2, 3, 0, 4, 1] rfl) hk
          obtain ⟨q59, hq59, hf⟩ := mm_bd hf
          refine L59 K _ _ _ hq59 _ _ hM _ (lv_sub hl [2, 3, 4, 1, 0] rfl) (fun H locs hM ls hl => ?_)
          refine lv_aload_n hx hb dX13_describePlan_95 rfl (lv_at hl 0 rfl) ?_
          refine lv_iload_n hx hb dX13_describePlan_96 rfl (lv_at hl 3 rfl) ?_
          obtain ⟨q97, hq97, hf⟩ := mm_bd hf
          refine mm_Si (rest := [.ref b]) hC hM (c_X13_letter l hq97) q8_89 q1_12 ykX13_letter q8_87 q8_88 ⟨rfl, rfl⟩ ⟨Nat.le_of_ble_eq_true rfl, Nat.le_of_ble_eq_true rfl⟩ rfl hl.1 rfl (Nat.le_of_ble_eq_true rfl) dX13_describePlan_97 ⟨Nat.le_of_ble_eq_true rfl, Nat.le_of_ble_eq_true rfl⟩ (fun r w97 H locs hM hw => ?_)
          obtain ⟨hr, hw⟩ := hw
          rw [hr]
          rw [hw] at hM
          obtain ⟨q100, hq100, hf⟩ := mm_bd hf
          refine mm_Vv (rest := []) hC hM (c_X13_writes l hq100 hp_this) q9_54 q1_12 ykX13_writes q9_51 q9_53 qp_eefd4c03 hp_this.1 rfl ⟨rfl, rfl⟩ ⟨Nat.le_of_ble_eq_true rfl, Nat.le_of_ble_eq_true rfl⟩ rfl hl.1 rfl (Nat.le_of_ble_eq_true rfl) dX13_describePlan_100 ⟨Nat.le_of_ble_eq_true rfl, Nat.le_of_ble_eq_true rfl⟩ (fun w100 H locs hM hw => ?_)
          obtain ⟨hn_this, hfr⟩ := hw
          have hp_this := hn_this
          have hF := hF.tr (hfr.wide (by omega) (by omega))
          refine lv_iload hx hb dX13_describePlan_103 (lv_at hl 4 rfl) ?_
          refine lv_bipush (v := 9) hx hb dX13_describePlan_105 (by decide) ?_
          refine lv_icmp_le (tgt := 122) hx hb dX13_describePlan_107 (by decide) (fun hcd => ?_) (fun hcd => ?_)
          · rw [if_pos hcd] at hf
            refine lv_iload hx hb dX13_describePlan_122 (lv_at hl 4 rfl) ?_
            refine lv_iconst (v := 1) hx hb dX13_describePlan_124 (by decide) ?_
            refine lv_icmp_le (tgt := 140) hx hb dX13_describePlan_125 (by decide) (fun hcd => ?_) (fun hcd => ?_)
            · rw [if_pos hcd] at hf
              refine lv_goto (tgt := 32) hx hb dX13_describePlan_140 (by decide) ?_
              exact ih _ _ _ _ hf _ _ _ hM hp_this hF _ (lv_sub hl [0, 1, 2] rfl) hk
            · rw [if_neg hcd] at hf
              refine lv_aload_n hx hb dX13_describePlan_128 rfl (lv_at hl 0 rfl) ?_
              refine lv_bipush (v := 48) hx hb dX13_describePlan_129 (by decide) ?_
              refine lv_iload hx hb dX13_describePlan_131 (lv_at hl 4 rfl) ?_
              refine lv_bipush (v := 10) hx hb dX13_describePlan_133 (by decide) ?_
              refine lv_irem hx hb dX13_describePlan_135 (by decide) ?_
              refine lv_iadd hx hb dX13_describePlan_136 ?_
              obtain ⟨q137, hq137, hf⟩ := mm_bd hf
              refine mm_Vv (rest := []) hC hM (c_X13_writes l hq137 hp_this) q9_54 q1_12 ykX13_writes q9_51 q9_53 qp_eefd4c03 hp_this.1 rfl ⟨rfl, rfl⟩ ⟨Nat.le_of_ble_eq_true rfl, Nat.le_of_ble_eq_true rfl⟩ rfl hl.1 rfl (Nat.le_of_ble_eq_true rfl) dX13_describePlan_137 ⟨Nat.le_of_ble_eq_true rfl, Nat.le_of_ble_eq_true rfl⟩ (fun w137 H locs hM hw => ?_)
              obtain ⟨hn_this, hfr⟩ := hw
              have hp_this := hn_this
              have hF := hF.tr (hfr.wide (by omega) (by omega))
              refine lv_goto (tgt := 32) hx hb dX13_describePlan_140 (by decide) ?_
              exact ih _ _ _ _ hf _ _ _ hM hp_this hF _ (lv_sub hl [0, 1, 2] rfl) hk
          · rw [if_neg hcd] at hf
            refine lv_aload_n hx hb dX13_describePlan_110 rfl (lv_at hl 0 rfl) ?_
            refine lv_bipush (v := 48) hx hb dX13_describePlan_111 (by decide) ?_
            refine lv_iload hx hb dX13_describePlan_113 (lv_at hl 4 rfl) ?_
            refine lv_bipush (v := 10) hx hb dX13_describePlan_115 (by decide) ?_
            refine lv_idiv hx hb dX13_describePlan_117 (by decide) ?_
            refine lv_iadd hx hb dX13_describePlan_118 ?_
            obtain ⟨q119, hq119, hf⟩ := mm_bd hf
            refine mm_Vv (rest := []) hC hM (c_X13_writes l hq119 hp_this) q9_54 q1_12 ykX13_writes q9_51 q9_53 qp_eefd4c03 hp_this.1 rfl ⟨rfl, rfl⟩ ⟨Nat.le_of_ble_eq_true rfl, Nat.le_of_ble_eq_true rfl⟩ rfl hl.1 rfl (Nat.le_of_ble_eq_true rfl) dX13_describePlan_119 ⟨Nat.le_of_ble_eq_true rfl, Nat.le_of_ble_eq_true rfl⟩ (fun w119 H locs hM hw => ?_)
            obtain ⟨hn_this, hfr⟩ := hw
            have hp_this := hn_this
            have hF := hF.tr (hfr.wide (by omega) (by omega))
            refine lv_iload hx hb dX13_describePlan_122 (lv_at hl 4 rfl) ?_
            refine lv_iconst (v := 1) hx hb dX13_describePlan_124 (by decide) ?_
            refine lv_icmp_le (tgt := 140) hx hb dX13_describePlan_125 (by decide) (fun hcd => ?_) (fun hcd => ?_)
            · rw [if_pos hcd] at hf
              refine lv_goto (tgt := 32) hx hb dX13_describePlan_140 (by decide) ?_
              exact ih _ _ _ _ hf _ _ _ hM hp_this hF _ (lv_sub hl [0, 1, 2] rfl) hk
            · rw [if_neg hcd] at hf
              refine lv_aload_n hx hb dX13_describePlan_128 rfl (lv_at hl 0 rfl) ?_
              refine lv_bipush (v := 48) hx hb dX13_describePlan_129 (by decide) ?_
              refine lv_iload hx hb dX13_describePlan_131 (lv_at hl 4 rfl) ?_
              refine lv_bipush (v := 10) hx hb dX13_describePlan_133 (by decide) ?_
              refine lv_irem hx hb dX13_describePlan_135 (by decide) ?_
              refine lv_iadd hx hb dX13_describePlan_136 ?_
              obtain ⟨q137, hq137, hf⟩ := mm_bd hf
              refine mm_Vv (rest := []) hC hM (c_X13_writes l hq137 hp_this) q9_54 q1_12 ykX13_writes q9_51 q9_53 qp_eefd4c03 hp_this.1 rfl ⟨rfl, rfl⟩ ⟨Nat.le_of_ble_eq_true rfl, Nat.le_of_ble_eq_true rfl⟩ rfl hl.1 rfl (Nat.le_of_ble_eq_true rfl) dX13_describePlan_137 ⟨Nat.le_of_ble_eq_true rfl, Nat.le_of_ble_eq_true rfl⟩ (fun w137 H locs hM hw => ?_)
              obtain ⟨hn_this, hfr⟩ := hw
              have hp_this := hn_this
              have hF := hF.tr (hfr.wide (by omega) (by omega))
              refine lv_goto (tgt := 32) hx hb dX13_describePlan_140 (by decide) ?_
              exact ih _ _ _ _ hf _ _ _ hM hp_this hF _ (lv_sub hl [0, 1, 2] rfl) hk
    obtain ⟨q32, hq32, hf⟩ := mm_bd hf
    refine L32 K _ _ _ _ hq32 _ _ _ hM hp_this hF _ (lv_sub hl [1, 2, 0] rfl) (fun w32 H locs hM hp_this hF ls hl => ?_)
    refine lv_aload_n hx hb dX13_describePlan_143 rfl (lv_at hl 0 rfl) ?_
    refine mm_get hC hM (k := 23) hp_this.1 rfl inAX13 (by decide) q7_28 rfl dX13_describePlan_144 ?_
    cases hf
    exact hret hM dX13_describePlan_147 rfl ⟨rfl, hp_this, hF⟩
def f_X13_lineAt (line : Nat → Int32) (lineN : Int32) (x1 : Int32) : Option (Int32 × Int32) := (f_X13_isIn x1 0 (lineN - 1)).bind fun q9 => if q9 = 0 then some (97, 1) else mm_g (mm_ck x1 50) (some (((line x1.toNatClampNeg).toUInt32 % 65536).toInt32, 0))
set_option maxHeartbeats 4000000 in
set_option maxRecDepth 100000 in
theorem c_X13_lineAt (l : Launch) {G : mm_G} {w : va_W} {sz : Nat} {b : Nat} {thrown : Int32} {changes : Int32} {errorAt : Int32} {failedAt : Int32} {isSaved : Int32} {v : Nat → Int32} {before : Nat → Int32} {saved : Nat → Int32} {past : Nat → Int32} {far : Nat → Int32} {scratch : Nat → Int32} {best : Nat → Int32} {thenX : Int32} {thenY : Int32} {thenMet : Int32} {text : Nat → Int32} {line : Nat → Int32} {isLeft : Nat → Int32} {words : Nat → Int32} {wordAt : Nat → Int32} {textN : Int32} {hereP : Int32} {endP : Int32} {lineN : Int32} {isWrong : Int32} {isDoing : Int32} {x1 : Int32} {X : Int32 × Int32} (hf : f_X13_lineAt line lineN x1 = some X) (hp_this : At13 G w b thrown changes errorAt failedAt isSaved v before saved past far scratch best thenX thenY thenMet text line isLeft words wordAt textN hereP endP lineN isWrong isDoing) : Met l yX13_lineAt (Cond.code yX13_lineAt cX13_lineAt 2 (some .char) :: gAll) ({ frames := 1, cells := 0, slots := 0, locals := 22 }) (va_Pc [.ref b, .int x1] (mm_Pre G w sz)) (mm_Qi G w sz (fun r w' => r = X.1 ∧ At13 G w' b X.2 changes errorAt failedAt isSaved v before saved past far scratch best thenX thenY thenMet text line isLeft words wordAt textN hereP endP lineN isWrong isDoing ∧ mm_fr w w' b (b + 13))) 0 0 (va_A w sz) := by
  refine mm_headI [.ref b, .int x1] (by decide +kernel) rfl (Nat.le_of_ble_eq_true rfl) ?_
  intro p e s m args below meth c A Q hsz hC hM hret ls hl
  have hx := hC.1.1
  have hb := hC.1.2.1
  have hl : lv_has ls 2 [(0, .ref b), (1, .int x1)] := hl
  have hF : mm_fr w w b (b + 13) := mm_fr.rf
  rw [f_X13_lineAt] at hf
  refine lv_aload_n hx hb dX13_lineAt_0 rfl (lv_at hl 0 rfl) ?_
  refine lv_iload_n hx hb dX13_lineAt_1 rfl (lv_at hl 1 rfl) ?_
  refine lv_iconst (v := 0) hx hb dX13_lineAt_2 (by decide) ?_
  refine lv_aload_n hx hb dX13_lineAt_3 rfl (lv_at hl 0 rfl) ?_
  refine mm_get hC hM (k := 23) hp_this.1 rfl inAX13 (by decide) q7_28 rfl dX13_lineAt_4 ?_
  refine lv_iconst (v := 1) hx hb dX13_lineAt_7 (by decide) ?_
  refine lv_isub hx hb dX13_lineAt_8 ?_
  obtain ⟨q9, hq9, hf⟩ := mm_bd hf
  refine mm_Si (rest := [.ref b]) hC hM (c_X13_isIn l hq9) q7_108 q1_12 ykX13_isIn q7_106 q7_107 ⟨rfl, rfl⟩ ⟨Nat.le_of_ble_eq_true rfl, Nat.le_of_ble_eq_true rfl⟩ rfl hl.1 rfl (Nat.le_of_ble_eq_true rfl) dX13_lineAt_9 ⟨Nat.le_of_ble_eq_true rfl, Nat.le_of_ble_eq_true rfl⟩ (fun r w9 H locs hM hw => ?_)
  obtain ⟨hr, hw⟩ := hw
  rw [hr]
  rw [hw] at hM
  refine lv_if_eq (tgt := 19) hx hb dX13_lineAt_12 (by decide) (fun hcd => ?_) (fun hcd => ?_)
  · rw [if_pos hcd] at hf
    refine lv_iconst (v := 1) hx hb dX13_lineAt_19 (by decide) ?_
    refine mm_put hC hM (k := 0) tyX13 hp_this.1 rfl inAX13 tyX13_ok nmX13 (by decide) q7_5 rfl rfl rfl rfl (Nat.le_of_ble_eq_true rfl) dX13_lineAt_20 (fun w20 H locs hM hm => ?_)
    have hp_this : At13 G w20 b 1 changes errorAt failedAt isSaved v before saved past far scratch best thenX thenY thenMet text line isLeft words wordAt textN hereP endP lineN isWrong isDoing := ⟨hm.1, hm.keep (hp_this.2.1) (by omega), hm.keep (hp_this.2.2.1) (by omega), hm.keep (hp_this.2.2.2.1) (by omega), hm.keep (hp_this.2.2.2.2.1) (by omega), hm.keep (hp_this.2.2.2.2.2.1) (by omega), hm.keep (hp_this.2.2.2.2.2.2.1) (by omega), hm.keep (hp_this.2.2.2.2.2.2.2.1) (by omega), hm.keep (hp_this.2.2.2.2.2.2.2.2.1) (by omega), hm.keep (hp_this.2.2.2.2.2.2.2.2.2.1) (by omega), hm.keep (hp_this.2.2.2.2.2.2.2.2.2.2.1) (by omega), hm.keep (hp_this.2.2.2.2.2.2.2.2.2.2.2.1) (by omega), hm.keep (hp_this.2.2.2.2.2.2.2.2.2.2.2.2) (by omega)⟩
    have hF := hF.tr (hm.fr (by omega) (by omega))
    refine lv_aload_n hx hb dX13_lineAt_23 rfl (lv_at hl 0 rfl) ?_
    refine mm_get hC hM (k := 0) hp_this.1 rfl inAX13 (by decide) q7_5 rfl dX13_lineAt_24 ?_
    refine lv_if_ne (tgt := 40) hx hb dX13_lineAt_27 (by decide) (fun _ => ?_) (fun c => absurd c (by decide))
    refine lv_bipush (v := 97) hx hb dX13_lineAt_40 (by decide) ?_
    cases hf
    exact hret hM dX13_lineAt_42 (by decide) ⟨rfl, hp_this, hF⟩
  · rw [if_neg hcd] at hf
    refine lv_iconst (v := 0) hx hb dX13_lineAt_15 (by decide) ?_
    refine lv_goto (tgt := 20) hx hb dX13_lineAt_16 (by decide) ?_
    refine mm_put hC hM (k := 0) tyX13 hp_this.1 rfl inAX13 tyX13_ok nmX13 (by decide) q7_5 rfl rfl rfl rfl (Nat.le_of_ble_eq_true rfl) dX13_lineAt_20 (fun w20 H locs hM hm => ?_)
    have hp_this : At13 G w20 b 0 changes errorAt failedAt isSaved v before saved past far scratch best thenX thenY thenMet text line isLeft words wordAt textN hereP endP lineN isWrong isDoing := ⟨hm.1, hm.keep (hp_this.2.1) (by omega), hm.keep (hp_this.2.2.1) (by omega), hm.keep (hp_this.2.2.2.1) (by omega), hm.keep (hp_this.2.2.2.2.1) (by omega), hm.keep (hp_this.2.2.2.2.2.1) (by omega), hm.keep (hp_this.2.2.2.2.2.2.1) (by omega), hm.keep (hp_this.2.2.2.2.2.2.2.1) (by omega), hm.keep (hp_this.2.2.2.2.2.2.2.2.1) (by omega), hm.keep (hp_this.2.2.2.2.2.2.2.2.2.1) (by omega), hm.keep (hp_this.2.2.2.2.2.2.2.2.2.2.1) (by omega), hm.keep (hp_this.2.2.2.2.2.2.2.2.2.2.2.1) (by omega), hm.keep (hp_this.2.2.2.2.2.2.2.2.2.2.2.2) (by omega)⟩
    have hF := hF.tr (hm.fr (by omega) (by omega))
    refine lv_aload_n hx hb dX13_lineAt_23 rfl (lv_at hl 0 rfl) ?_
    refine mm_get hC hM (k := 0) hp_this.1 rfl inAX13 (by decide) q7_5 rfl dX13_lineAt_24 ?_
    refine lv_if_ne (tgt := 40) hx hb dX13_lineAt_27 (by decide) (fun c => absurd (by decide) c) (fun _ => ?_)
    refine lv_aload_n hx hb dX13_lineAt_30 rfl (lv_at hl 0 rfl) ?_
    refine mm_get hC hM (k := 16) hp_this.1 rfl inAX13 (by decide) q7_21 rfl dX13_lineAt_31 ?_
    refine lv_iload_n hx hb dX13_lineAt_34 rfl (lv_at hl 1 rfl) ?_
    obtain ⟨hg35, hf⟩ := mm_gd hf
    refine mm_iald hC hM (hp_this.2.2.2.2.2.2.2.2.2.1) hg35 dX13_lineAt_35 ?_
    refine lv_i2c hx hb dX13_lineAt_36 rfl ?_
    refine lv_goto (tgt := 42) hx hb dX13_lineAt_37 (by decide) ?_
    cases hf
    exact hret hM dX13_lineAt_42 (mm_narC2 _) ⟨rfl, hp_this, hF⟩
def f_X13_isConsistent (v : Nat → Int32) : Option (Int32 × Int32) := if 30 < (v 0) then some (0, 0) else if 4 < (v 3) then some (0, 0) else some (1, 0)
set_option maxHeartbeats 4000000 in
set_option maxRecDepth 100000 in
theorem c_X13_isConsistent (l : Launch) {G : mm_G} {w : va_W} {sz : Nat} {b : Nat} {thrown : Int32} {changes : Int32} {errorAt : Int32} {failedAt : Int32} {isSaved : Int32} {v : Nat → Int32} {before : Nat → Int32} {saved : Nat → Int32} {past : Nat → Int32} {far : Nat → Int32} {scratch : Nat → Int32} {best : Nat → Int32} {thenX : Int32} {thenY : Int32} {thenMet : Int32} {text : Nat → Int32} {line : Nat → Int32} {isLeft : Nat → Int32} {words : Nat → Int32} {wordAt : Nat → Int32} {textN : Int32} {hereP : Int32} {endP : Int32} {lineN : Int32} {isWrong : Int32} {isDoing : Int32} {X : Int32 × Int32} (hf : f_X13_isConsistent v = some X) (hp_this : At13 G w b thrown changes errorAt failedAt isSaved v before saved past far scratch best thenX thenY thenMet text line isLeft words wordAt textN hereP endP lineN isWrong isDoing) : Met l yX13_isConsistent (Cond.code yX13_isConsistent cX13_isConsistent 1 (some .boolean) :: gAll) ({ frames := 0, cells := 0, slots := 0, locals := 0 }) (va_Pc [.ref b] (mm_Pre G w sz)) (mm_Qi G w sz (fun r w' => r = X.1 ∧ At13 G w' b X.2 changes errorAt failedAt isSaved v before saved past far scratch best thenX thenY thenMet text line isLeft words wordAt textN hereP endP lineN isWrong isDoing ∧ mm_fr w w' b (b + 13))) 0 0 (va_A w sz) := by
  refine mm_headI [.ref b] (by decide +kernel) rfl (Nat.le_of_ble_eq_true rfl) ?_
  intro p e s m args below meth c A Q hsz hC hM hret ls hl
  have hx := hC.1.1
  have hb := hC.1.2.1
  have hl : lv_has ls 1 [(0, .ref b)] := hl
  have hF : mm_fr w w b (b + 13) := mm_fr.rf
  rw [f_X13_isConsistent] at hf
  refine lv_aload_n hx hb dX13_isConsistent_0 rfl (lv_at hl 0 rfl) ?_
  refine lv_iconst (v := 0) hx hb dX13_isConsistent_1 (by decide) ?_
  refine mm_put hC hM (k := 0) tyX13 hp_this.1 rfl inAX13 tyX13_ok nmX13 (by decide) q7_5 rfl rfl rfl rfl (Nat.le_of_ble_eq_true rfl) dX13_isConsistent_2 (fun w2 H locs hM hm => ?_)
  have hp_this : At13 G w2 b 0 changes errorAt failedAt isSaved v before saved past far scratch best thenX thenY thenMet text line isLeft words wordAt textN hereP endP lineN isWrong isDoing := ⟨hm.1, hm.keep (hp_this.2.1) (by omega), hm.keep (hp_this.2.2.1) (by omega), hm.keep (hp_this.2.2.2.1) (by omega), hm.keep (hp_this.2.2.2.2.1) (by omega), hm.keep (hp_this.2.2.2.2.2.1) (by omega), hm.keep (hp_this.2.2.2.2.2.2.1) (by omega), hm.keep (hp_this.2.2.2.2.2.2.2.1) (by omega), hm.keep (hp_this.2.2.2.2.2.2.2.2.1) (by omega), hm.keep (hp_this.2.2.2.2.2.2.2.2.2.1) (by omega), hm.keep (hp_this.2.2.2.2.2.2.2.2.2.2.1) (by omega), hm.keep (hp_this.2.2.2.2.2.2.2.2.2.2.2.1) (by omega), hm.keep (hp_this.2.2.2.2.2.2.2.2.2.2.2.2) (by omega)⟩
  have hF := hF.tr (hm.fr (by omega) (by omega))
  refine lv_aload_n hx hb dX13_isConsistent_5 rfl (lv_at hl 0 rfl) ?_
  refine mm_get hC hM (k := 5) hp_this.1 rfl inAX13 (by decide) q7_10 rfl dX13_isConsistent_6 ?_
  refine lv_iconst (v := 0) hx hb dX13_isConsistent_9 (by decide) ?_
  refine mm_ialdN (N := 0) hC hM (hp_this.2.1) (by decide) (by unfold vp_in; decide) dX13_isConsistent_10 ?_
  refine lv_bipush (v := 30) hx hb dX13_isConsistent_11 (by decide) ?_
  refine lv_icmp_gt (tgt := 30) hx hb dX13_isConsistent_13 (by decide) (fun hcd => ?_) (fun hcd => ?_)
  · rw [if_pos hcd] at hf
    refine lv_iconst (v := 0) hx hb dX13_isConsistent_30 (by decide) ?_
    cases hf
    exact hret hM dX13_isConsistent_31 rfl ⟨rfl, hp_this, hF⟩
  · rw [if_neg hcd] at hf
    refine lv_aload_n hx hb dX13_isConsistent_16 rfl (lv_at hl 0 rfl) ?_
    refine mm_get hC hM (k := 5) hp_this.1 rfl inAX13 (by decide) q7_10 rfl dX13_isConsistent_17 ?_
    refine lv_iconst (v := 3) hx hb dX13_isConsistent_20 (by decide) ?_
    refine mm_ialdN (N := 3) hC hM (hp_this.2.1) (by decide) (by unfold vp_in; decide) dX13_isConsistent_21 ?_
    refine lv_iconst (v := 4) hx hb dX13_isConsistent_22 (by decide) ?_
    refine lv_icmp_gt (tgt := 30) hx hb dX13_isConsistent_23 (by decide) (fun hcd => ?_) (fun hcd => ?_)
    · rw [if_pos hcd] at hf
      refine lv_iconst (v := 0) hx hb dX13_isConsistent_30 (by decide) ?_
      cases hf
      exact hret hM dX13_isConsistent_31 rfl ⟨rfl, hp_this, hF⟩
    · rw [if_neg hcd] at hf
      refine lv_iconst (v := 1) hx hb dX13_isConsistent_26 (by decide) ?_
      refine lv_goto (tgt := 31) hx hb dX13_isConsistent_27 (by decide) ?_
      cases hf
      exact hret hM dX13_isConsistent_31 rfl ⟨rfl, hp_this, hF⟩
def f_X13_undo_L37 (changes : Int32) (past : Nat → Int32) : Nat → (Int32) → (Nat → Int32) → Option (Nat → Int32)
  | 0, _, _ => none
  | n + 1, x1, v => if 238 ≤ x1 then some v else mm_g (mm_ck ((changes * 238) + x1) 1904) (mm_g (mm_ck x1 238) (f_X13_undo_L37 changes past n (x1 + 1) (upd v x1.toNatClampNeg (past ((changes * 238) + x1).toNatClampNeg))))
def f_X13_undo (K : Nat) (changes : Int32) (v : Nat → Int32) (past : Nat → Int32) : Option (Int32 × Int32 × Int32 × (Nat → Int32)) := if changes = 0 then some (0, 1, changes, v) else (f_X13_undo_L37 (changes - 1) past K 0 v).bind fun q37 => some ((changes - 1), 0, (changes - 1), q37)
set_option maxHeartbeats 4000000 in
set_option maxRecDepth 100000 in
theorem c_X13_undo (l : Launch) {G : mm_G} {K : Nat} {w : va_W} {sz : Nat} {b : Nat} {thrown : Int32} {changes : Int32} {errorAt : Int32} {failedAt : Int32} {isSaved : Int32} {v : Nat → Int32} {before : Nat → Int32} {saved : Nat → Int32} {past : Nat → Int32} {far : Nat → Int32} {scratch : Nat → Int32} {best : Nat → Int32} {thenX : Int32} {thenY : Int32} {thenMet : Int32} {text : Nat → Int32} {line : Nat → Int32} {isLeft : Nat → Int32} {words : Nat → Int32} {wordAt : Nat → Int32} {textN : Int32} {hereP : Int32} {endP : Int32} {lineN : Int32} {isWrong : Int32} {isDoing : Int32} {X : Int32 × Int32 × Int32 × (Nat → Int32)} (hf : f_X13_undo K changes v past = some X) (hp_this : At13 G w b thrown changes errorAt failedAt isSaved v before saved past far scratch best thenX thenY thenMet text line isLeft words wordAt textN hereP endP lineN isWrong isDoing) : Met l yX13_undo (Cond.code yX13_undo cX13_undo 2 (some .int) :: gAll) ({ frames := 0, cells := 0, slots := 0, locals := 0 }) (va_Pc [.ref b] (mm_Pre G w sz)) (mm_Qi G w sz (fun r w' => r = X.1 ∧ At13 G w' b X.2.1 X.2.2.1 errorAt failedAt isSaved X.2.2.2 before saved past far scratch best thenX thenY thenMet text line isLeft words wordAt textN hereP endP lineN isWrong isDoing ∧ mm_fr w w' b (b + 13))) 0 0 (va_A w sz) := by
  refine mm_headI [.ref b] (by decide +kernel) rfl (Nat.le_of_ble_eq_true rfl) ?_
  intro p e s m args below meth c A Q hsz hC hM hret ls hl
  have hx := hC.1.1
  have hb := hC.1.2.1
  have hl : lv_has ls 2 [(0, .ref b)] := hl
  have hF : mm_fr w w b (b + 13) := mm_fr.rf
  rw [f_X13_undo] at hf
  refine lv_aload_n hx hb dX13_undo_0 rfl (lv_at hl 0 rfl) ?_
  refine lv_aload_n hx hb dX13_undo_1 rfl (lv_at hl 0 rfl) ?_
  refine mm_get hC hM (k := 1) hp_this.1 rfl inAX13 (by decide) q7_6 rfl dX13_undo_2 ?_
  refine lv_if_ne (tgt := 12) hx hb dX13_undo_5 (by decide) (fun hcd => ?_) (fun hcd => ?_)
  · rw [if_neg hcd] at hf
    refine lv_iconst (v := 0) hx hb dX13_undo_12 (by decide) ?_
    refine mm_put hC hM (k := 0) tyX13 hp_this.1 rfl inAX13 tyX13_ok nmX13 (by decide) q7_5 rfl rfl rfl rfl (Nat.le_of_ble_eq_true rfl) dX13_undo_13 (fun w13 H locs hM hm => ?_)
    have hp_this : At13 G w13 b 0 changes errorAt failedAt isSaved v before saved past far scratch best thenX thenY thenMet text line isLeft words wordAt textN hereP endP lineN isWrong isDoing := ⟨hm.1, hm.keep (hp_this.2.1) (by omega), hm.keep (hp_this.2.2.1) (by omega), hm.keep (hp_this.2.2.2.1) (by omega), hm.keep (hp_this.2.2.2.2.1) (by omega), hm.keep (hp_this.2.2.2.2.2.1) (by omega), hm.keep (hp_this.2.2.2.2.2.2.1) (by omega), hm.keep (hp_this.2.2.2.2.2.2.2.1) (by omega), hm.keep (hp_this.2.2.2.2.2.2.2.2.1) (by omega), hm.keep (hp_this.2.2.2.2.2.2.2.2.2.1) (by omega), hm.keep (hp_this.2.2.2.2.2.2.2.2.2.2.1) (by omega), hm.keep (hp_this.2.2.2.2.2.2.2.2.2.2.2.1) (by omega), hm.keep (hp_this.2.2.2.2.2.2.2.2.2.2.2.2) (by omega)⟩
    have hF := hF.tr (hm.fr (by omega) (by omega))
    refine lv_aload_n hx hb dX13_undo_16 rfl (lv_at hl 0 rfl) ?_
    refine mm_get hC hM (k := 0) hp_this.1 rfl inAX13 (by decide) q7_5 rfl dX13_undo_17 ?_
    refine lv_if_eq (tgt := 25) hx hb dX13_undo_20 (by decide) (fun _ => ?_) (fun c => absurd (by decide) c)
    refine lv_aload_n hx hb dX13_undo_25 rfl (lv_at hl 0 rfl) ?_
    refine lv_dup hx hb dX13_undo_26 rfl ?_
    refine mm_get hC hM (k := 1) hp_this.1 rfl inAX13 (by decide) q7_6 rfl dX13_undo_27 ?_
    refine lv_iconst (v := 1) hx hb dX13_undo_30 (by decide) ?_
    refine lv_isub hx hb dX13_undo_31 ?_
    refine mm_put hC hM (k := 1) tyX13 hp_this.1 rfl inAX13 tyX13_ok nmX13 (by decide) q7_6 rfl rfl rfl rfl (Nat.le_of_ble_eq_true rfl) dX13_undo_32 (fun w32 H locs hM hm => ?_)
    have hp_this : At13 G w32 b 0 (changes - 1) errorAt failedAt isSaved v before saved past far scratch best thenX thenY thenMet text line isLeft words wordAt textN hereP endP lineN isWrong isDoing := ⟨hm.1, hm.keep (hp_this.2.1) (by omega), hm.keep (hp_this.2.2.1) (by omega), hm.keep (hp_this.2.2.2.1) (by omega), hm.keep (hp_this.2.2.2.2.1) (by omega), hm.keep (hp_this.2.2.2.2.2.1) (by omega), hm.keep (hp_this.2.2.2.2.2.2.1) (by omega), hm.keep (hp_this.2.2.2.2.2.2.2.1) (by omega), hm.keep (hp_this.2.2.2.2.2.2.2.2.1) (by omega), hm.keep (hp_this.2.2.2.2.2.2.2.2.2.1) (by omega), hm.keep (hp_this.2.2.2.2.2.2.2.2.2.2.1) (by omega), hm.keep (hp_this.2.2.2.2.2.2.2.2.2.2.2.1) (by omega), hm.keep (hp_this.2.2.2.2.2.2.2.2.2.2.2.2) (by omega)⟩
    have hF := hF.tr (hm.fr (by omega) (by omega))
    refine lv_iconst (v := 0) hx hb dX13_undo_35 (by decide) ?_
    refine lv_istore_n (lv' := [(1, .int 0), (0, .ref b)]) hx hb dX13_undo_36 rfl hl (by decide) rfl (fun ls hl => ?_)
    have L37 : ∀ (n : Nat) (L37_x1 : Int32) (L37_v : Nat → Int32) (X : Nat → Int32), f_X13_undo_L37 (changes - 1) past n L37_x1 L37_v = some X → ∀ (L37_w : va_W) (H : Heap) (locs : List Loc), mm_S G A s.heap L37_w H locs → At13 G L37_w b 0 (changes - 1) errorAt failedAt isSaved L37_v before saved past far scratch best thenX thenY thenMet text line isLeft words wordAt textN hereP endP lineN isWrong isDoing → mm_fr w L37_w b (b + 13) → ∀ (ls : Array Slot), lv_has ls 2 [(0, .ref b), (1, .int L37_x1)] → (∀ (w9 : va_W) (H : Heap) (locs : List Loc), mm_S G A s.heap w9 H locs → At13 G w9 b 0 (changes - 1) errorAt failedAt isSaved X before saved past far scratch best thenX thenY thenMet text line isLeft words wordAt textN hereP endP lineN isWrong isDoing → mm_fr w w9 b (b + 13) → ∀ (ls : Array Slot), lv_has ls 2 [(0, .ref b)] → W p l e ({ frames := 0, cells := 0, slots := 0, locals := 0 } : Room) s m args below meth c H locs 0 0 Q (F0 m 71 ls [])) → W p l e ({ frames := 0, cells := 0, slots := 0, locals := 0 } : Room) s m args below meth c H locs 0 0 Q (F0 m 37 ls []) := by
      intro n
      induction n with
      | zero => intro L37_x1 L37_v X hf; cases hf
      | succ n ih =>
        intro L37_x1 L37_v X hf L37_w H locs hM hp_this hF ls hl hk
        rw [f_X13_undo_L37] at hf
        refine lv_iload_n hx hb dX13_undo_37 rfl (lv_at hl 1 rfl) ?_
        refine lv_sipush (v := 238) hx hb dX13_undo_38 (by decide) ?_
        refine lv_icmp_ge (tgt := 71) hx hb dX13_undo_41 (by decide) (fun hcd => ?_) (fun hcd => ?_)
        · rw [if_pos hcd] at hf
          cases hf
          exact hk _ _ _ hM hp_this hF _ (lv_sub hl [0] rfl)
        · rw [if_neg hcd] at hf
          refine lv_aload_n hx hb dX13_undo_44 rfl (lv_at hl 0 rfl) ?_
          refine mm_get hC hM (k := 5) hp_this.1 rfl inAX13 (by decide) q7_10 rfl dX13_undo_45 ?_
          refine lv_iload_n hx hb dX13_undo_48 rfl (lv_at hl 1 rfl) ?_
          refine lv_aload_n hx hb dX13_undo_49 rfl (lv_at hl 0 rfl) ?_
          refine mm_get hC hM (k := 8) hp_this.1 rfl inAX13 (by decide) q7_13 rfl dX13_undo_50 ?_
          refine lv_aload_n hx hb dX13_undo_53 rfl (lv_at hl 0 rfl) ?_
          refine mm_get hC hM (k := 1) hp_this.1 rfl inAX13 (by decide) q7_6 rfl dX13_undo_54 ?_
          refine lv_sipush (v := 238) hx hb dX13_undo_57 (by decide) ?_
          refine lv_imul hx hb dX13_undo_60 ?_
          refine lv_iload_n hx hb dX13_undo_61 rfl (lv_at hl 1 rfl) ?_
          refine lv_iadd hx hb dX13_undo_62 ?_
          obtain ⟨hg63, hf⟩ := mm_gd hf
          refine mm_iald hC hM (hp_this.2.2.2.2.1) hg63 dX13_undo_63 ?_
          obtain ⟨hg64, hf⟩ := mm_gd hf
          refine mm_iast hC hM (hp_this.2.1) hg64 dX13_undo_64 (fun w64 H locs hM hm => ?_)
          have hp_this : At13 G w64 b 0 (changes - 1) errorAt failedAt isSaved (upd L37_v L37_x1.toNatClampNeg (past (((changes - 1) * 238) + L37_x1).toNatClampNeg)) before saved past far scratch best thenX thenY thenMet text line isLeft words wordAt textN hereP endP lineN isWrong isDoing := ⟨hm.keep (hp_this.1) (by omega), hm.1, hm.keep (hp_this.2.2.1) (by omega), hm.keep (hp_this.2.2.2.1) (by omega), hm.keep (hp_this.2.2.2.2.1) (by omega), hm.keep (hp_this.2.2.2.2.2.1) (by omega), hm.keep (hp_this.2.2.2.2.2.2.1) (by omega), hm.keep (hp_this.2.2.2.2.2.2.2.1) (by omega), hm.keep (hp_this.2.2.2.2.2.2.2.2.1) (by omega), hm.keep (hp_this.2.2.2.2.2.2.2.2.2.1) (by omega), hm.keep (hp_this.2.2.2.2.2.2.2.2.2.2.1) (by omega), hm.keep (hp_this.2.2.2.2.2.2.2.2.2.2.2.1) (by omega), hm.keep (hp_this.2.2.2.2.2.2.2.2.2.2.2.2) (by omega)⟩
          have hF := hF.tr (hm.fr (by omega) (by omega))
          refine lv_iinc (v := (L37_x1 + 1)) (lv' := [(1, .int (L37_x1 + 1)), (0, .ref b)]) hx hb dX13_undo_65 hl (k := 1) rfl rfl (by decide) rfl (fun ls hl => ?_)
          refine lv_goto (tgt := 37) hx hb dX13_undo_68 (by decide) ?_
          exact ih _ _ _ hf _ _ _ hM hp_this hF _ (lv_sub hl [1, 0] rfl) hk
    obtain ⟨q37, hq37, hf⟩ := mm_bd hf
    refine L37 K _ _ _ hq37 _ _ _ hM hp_this hF _ (lv_sub hl [1, 0] rfl) (fun w37 H locs hM hp_this hF ls hl => ?_)
    refine lv_aload_n hx hb dX13_undo_71 rfl (lv_at hl 0 rfl) ?_
    refine mm_get hC hM (k := 1) hp_this.1 rfl inAX13 (by decide) q7_6 rfl dX13_undo_72 ?_
    cases hf
    exact hret hM dX13_undo_75 rfl ⟨rfl, hp_this, hF⟩
  · rw [if_pos hcd] at hf
    refine lv_iconst (v := 1) hx hb dX13_undo_8 (by decide) ?_
    refine lv_goto (tgt := 13) hx hb dX13_undo_9 (by decide) ?_
    refine mm_put hC hM (k := 0) tyX13 hp_this.1 rfl inAX13 tyX13_ok nmX13 (by decide) q7_5 rfl rfl rfl rfl (Nat.le_of_ble_eq_true rfl) dX13_undo_13 (fun w13 H locs hM hm => ?_)
    have hp_this : At13 G w13 b 1 changes errorAt failedAt isSaved v before saved past far scratch best thenX thenY thenMet text line isLeft words wordAt textN hereP endP lineN isWrong isDoing := ⟨hm.1, hm.keep (hp_this.2.1) (by omega), hm.keep (hp_this.2.2.1) (by omega), hm.keep (hp_this.2.2.2.1) (by omega), hm.keep (hp_this.2.2.2.2.1) (by omega), hm.keep (hp_this.2.2.2.2.2.1) (by omega), hm.keep (hp_this.2.2.2.2.2.2.1) (by omega), hm.keep (hp_this.2.2.2.2.2.2.2.1) (by omega), hm.keep (hp_this.2.2.2.2.2.2.2.2.1) (by omega), hm.keep (hp_this.2.2.2.2.2.2.2.2.2.1) (by omega), hm.keep (hp_this.2.2.2.2.2.2.2.2.2.2.1) (by omega), hm.keep (hp_this.2.2.2.2.2.2.2.2.2.2.2.1) (by omega), hm.keep (hp_this.2.2.2.2.2.2.2.2.2.2.2.2) (by omega)⟩
    have hF := hF.tr (hm.fr (by omega) (by omega))
    refine lv_aload_n hx hb dX13_undo_16 rfl (lv_at hl 0 rfl) ?_
    refine mm_get hC hM (k := 0) hp_this.1 rfl inAX13 (by decide) q7_5 rfl dX13_undo_17 ?_
    refine lv_if_eq (tgt := 25) hx hb dX13_undo_20 (by decide) (fun c => absurd c (by decide)) (fun _ => ?_)
    refine lv_iconst (v := 0) hx hb dX13_undo_23 (by decide) ?_
    cases hf
    exact hret hM dX13_undo_24 rfl ⟨rfl, hp_this, hF⟩
def f_X13_save (K : Nat) (v : Nat → Int32) (saved : Nat → Int32) : Option (Int32 × Int32 × Int32 × (Nat → Int32)) := (f_X13_lays K saved v).bind fun q13 => some ((v 3), 0, 1, q13)
set_option maxHeartbeats 4000000 in
set_option maxRecDepth 100000 in
theorem c_X13_save (l : Launch) {G : mm_G} {K : Nat} {w : va_W} {sz : Nat} {b : Nat} {thrown : Int32} {changes : Int32} {errorAt : Int32} {failedAt : Int32} {isSaved : Int32} {v : Nat → Int32} {before : Nat → Int32} {saved : Nat → Int32} {past : Nat → Int32} {far : Nat → Int32} {scratch : Nat → Int32} {best : Nat → Int32} {thenX : Int32} {thenY : Int32} {thenMet : Int32} {text : Nat → Int32} {line : Nat → Int32} {isLeft : Nat → Int32} {words : Nat → Int32} {wordAt : Nat → Int32} {textN : Int32} {hereP : Int32} {endP : Int32} {lineN : Int32} {isWrong : Int32} {isDoing : Int32} {X : Int32 × Int32 × Int32 × (Nat → Int32)} (hf : f_X13_save K v saved = some X) (hp_this : At13 G w b thrown changes errorAt failedAt isSaved v before saved past far scratch best thenX thenY thenMet text line isLeft words wordAt textN hereP endP lineN isWrong isDoing) : Met l yX13_save (Cond.code yX13_save cX13_save 1 (some .int) :: gAll) ({ frames := 1, cells := 0, slots := 0, locals := 22 }) (va_Pc [.ref b] (mm_Pre G w sz)) (mm_Qi G w sz (fun r w' => r = X.1 ∧ At13 G w' b X.2.1 changes errorAt failedAt X.2.2.1 v before X.2.2.2 past far scratch best thenX thenY thenMet text line isLeft words wordAt textN hereP endP lineN isWrong isDoing ∧ mm_fr w w' b (b + 13))) 0 0 (va_A w sz) := by
  refine mm_headI [.ref b] (by decide +kernel) rfl (Nat.le_of_ble_eq_true rfl) ?_
  intro p e s m args below meth c A Q hsz hC hM hret ls hl
  have hx := hC.1.1
  have hb := hC.1.2.1
  have hl : lv_has ls 1 [(0, .ref b)] := hl
  have hF : mm_fr w w b (b + 13) := mm_fr.rf
  rw [f_X13_save] at hf
  refine lv_aload_n hx hb dX13_save_0 rfl (lv_at hl 0 rfl) ?_
  refine lv_iconst (v := 0) hx hb dX13_save_1 (by decide) ?_
  refine mm_put hC hM (k := 0) tyX13 hp_this.1 rfl inAX13 tyX13_ok nmX13 (by decide) q7_5 rfl rfl rfl rfl (Nat.le_of_ble_eq_true rfl) dX13_save_2 (fun w2 H locs hM hm => ?_)
  have hp_this : At13 G w2 b 0 changes errorAt failedAt isSaved v before saved past far scratch best thenX thenY thenMet text line isLeft words wordAt textN hereP endP lineN isWrong isDoing := ⟨hm.1, hm.keep (hp_this.2.1) (by omega), hm.keep (hp_this.2.2.1) (by omega), hm.keep (hp_this.2.2.2.1) (by omega), hm.keep (hp_this.2.2.2.2.1) (by omega), hm.keep (hp_this.2.2.2.2.2.1) (by omega), hm.keep (hp_this.2.2.2.2.2.2.1) (by omega), hm.keep (hp_this.2.2.2.2.2.2.2.1) (by omega), hm.keep (hp_this.2.2.2.2.2.2.2.2.1) (by omega), hm.keep (hp_this.2.2.2.2.2.2.2.2.2.1) (by omega), hm.keep (hp_this.2.2.2.2.2.2.2.2.2.2.1) (by omega), hm.keep (hp_this.2.2.2.2.2.2.2.2.2.2.2.1) (by omega), hm.keep (hp_this.2.2.2.2.2.2.2.2.2.2.2.2) (by omega)⟩
  have hF := hF.tr (hm.fr (by omega) (by omega))
  refine lv_aload_n hx hb dX13_save_5 rfl (lv_at hl 0 rfl) ?_
  refine mm_get hC hM (k := 7) hp_this.1 rfl inAX13 (by decide) q7_12 rfl dX13_save_6 ?_
  refine lv_aload_n hx hb dX13_save_9 rfl (lv_at hl 0 rfl) ?_
  refine mm_get hC hM (k := 5) hp_this.1 rfl inAX13 (by decide) q7_10 rfl dX13_save_10 ?_
  obtain ⟨q13, hq13, hf⟩ := mm_bd hf
  refine mm_Sv (rest := []) hC hM (c_X13_lays l hq13 (hp_this.2.2.2.1) (hp_this.2.1) (by omega)) q7_98 q1_12 ykX13_lays q7_96 q7_97 ⟨rfl, rfl⟩ ⟨Nat.le_of_ble_eq_true rfl, Nat.le_of_ble_eq_true rfl⟩ rfl hl.1 rfl (Nat.le_of_ble_eq_true rfl) dX13_save_13 ⟨Nat.le_of_ble_eq_true rfl, Nat.le_of_ble_eq_true rfl⟩ (fun w13 H locs hM hw => ?_)
  obtain ⟨hn_p0, hfr⟩ := hw
  have hp_this : At13 G w13 b 0 changes errorAt failedAt isSaved v before q13 past far scratch best thenX thenY thenMet text line isLeft words wordAt textN hereP endP lineN isWrong isDoing := ⟨hfr.keep (hp_this.1) (by omega), hfr.keep (hp_this.2.1) (by omega), hfr.keep (hp_this.2.2.1) (by omega), hn_p0, hfr.keep (hp_this.2.2.2.2.1) (by omega), hfr.keep (hp_this.2.2.2.2.2.1) (by omega), hfr.keep (hp_this.2.2.2.2.2.2.1) (by omega), hfr.keep (hp_this.2.2.2.2.2.2.2.1) (by omega), hfr.keep (hp_this.2.2.2.2.2.2.2.2.1) (by omega), hfr.keep (hp_this.2.2.2.2.2.2.2.2.2.1) (by omega), hfr.keep (hp_this.2.2.2.2.2.2.2.2.2.2.1) (by omega), hfr.keep (hp_this.2.2.2.2.2.2.2.2.2.2.2.1) (by omega), hfr.keep (hp_this.2.2.2.2.2.2.2.2.2.2.2.2) (by omega)⟩
  have hF := hF.tr (hfr.wide (by omega) (by omega))
  refine lv_aload_n hx hb dX13_save_16 rfl (lv_at hl 0 rfl) ?_
  refine lv_iconst (v := 1) hx hb dX13_save_17 (by decide) ?_
  refine mm_put hC hM (k := 4) tyX13 hp_this.1 rfl inAX13 tyX13_ok nmX13 (by decide) q7_9 rfl rfl rfl (by decide) (Nat.le_of_ble_eq_true rfl) dX13_save_18 (fun w18 H locs hM hm => ?_)
  have hp_this : At13 G w18 b 0 changes errorAt failedAt 1 v before q13 past far scratch best thenX thenY thenMet text line isLeft words wordAt textN hereP endP lineN isWrong isDoing := ⟨hm.1, hm.keep (hp_this.2.1) (by omega), hm.keep (hp_this.2.2.1) (by omega), hm.keep (hp_this.2.2.2.1) (by omega), hm.keep (hp_this.2.2.2.2.1) (by omega), hm.keep (hp_this.2.2.2.2.2.1) (by omega), hm.keep (hp_this.2.2.2.2.2.2.1) (by omega), hm.keep (hp_this.2.2.2.2.2.2.2.1) (by omega), hm.keep (hp_this.2.2.2.2.2.2.2.2.1) (by omega), hm.keep (hp_this.2.2.2.2.2.2.2.2.2.1) (by omega), hm.keep (hp_this.2.2.2.2.2.2.2.2.2.2.1) (by omega), hm.keep (hp_this.2.2.2.2.2.2.2.2.2.2.2.1) (by omega), hm.keep (hp_this.2.2.2.2.2.2.2.2.2.2.2.2) (by omega)⟩
  have hF := hF.tr (hm.fr (by omega) (by omega))
  refine lv_aload_n hx hb dX13_save_21 rfl (lv_at hl 0 rfl) ?_
  refine mm_get hC hM (k := 5) hp_this.1 rfl inAX13 (by decide) q7_10 rfl dX13_save_22 ?_
  refine lv_iconst (v := 3) hx hb dX13_save_25 (by decide) ?_
  refine mm_ialdN (N := 3) hC hM (hp_this.2.1) (by decide) (by unfold vp_in; decide) dX13_save_26 ?_
  cases hf
  exact hret hM dX13_save_27 rfl ⟨rfl, hp_this, hF⟩
def f_X13_restore (K : Nat) (changes : Int32) (isSaved : Int32) (v : Nat → Int32) (saved : Nat → Int32) : Option (Int32 × Int32 × Int32 × (Nat → Int32)) := if isSaved = 0 then some (0, 1, changes, v) else (f_X13_lays K v saved).bind fun q33 => some ((q33 3), 0, 0, q33)
set_option maxHeartbeats 4000000 in
set_option maxRecDepth 100000 in
theorem c_X13_restore (l : Launch) {G : mm_G} {K : Nat} {w : va_W} {sz : Nat} {b : Nat} {thrown : Int32} {changes : Int32} {errorAt : Int32} {failedAt : Int32} {isSaved : Int32} {v : Nat → Int32} {before : Nat → Int32} {saved : Nat → Int32} {past : Nat → Int32} {far : Nat → Int32} {scratch : Nat → Int32} {best : Nat → Int32} {thenX : Int32} {thenY : Int32} {thenMet : Int32} {text : Nat → Int32} {line : Nat → Int32} {isLeft : Nat → Int32} {words : Nat → Int32} {wordAt : Nat → Int32} {textN : Int32} {hereP : Int32} {endP : Int32} {lineN : Int32} {isWrong : Int32} {isDoing : Int32} {X : Int32 × Int32 × Int32 × (Nat → Int32)} (hf : f_X13_restore K changes isSaved v saved = some X) (hp_this : At13 G w b thrown changes errorAt failedAt isSaved v before saved past far scratch best thenX thenY thenMet text line isLeft words wordAt textN hereP endP lineN isWrong isDoing) : Met l yX13_restore (Cond.code yX13_restore cX13_restore 1 (some .int) :: gAll) ({ frames := 1, cells := 0, slots := 0, locals := 22 }) (va_Pc [.ref b] (mm_Pre G w sz)) (mm_Qi G w sz (fun r w' => r = X.1 ∧ At13 G w' b X.2.1 X.2.2.1 errorAt failedAt isSaved X.2.2.2 before saved past far scratch best thenX thenY thenMet text line isLeft words wordAt textN hereP endP lineN isWrong isDoing ∧ mm_fr w w' b (b + 13))) 0 0 (va_A w sz) := by
  refine mm_headI [.ref b] (by decide +kernel) rfl (Nat.le_of_ble_eq_true rfl) ?_
  intro p e s m args below meth c A Q hsz hC hM hret ls hl
  have hx := hC.1.1
  have hb := hC.1.2.1
  have hl : lv_has ls 1 [(0, .ref b)] := hl
  have hF : mm_fr w w b (b + 13) := mm_fr.rf
  rw [f_X13_restore] at hf
  refine lv_aload_n hx hb dX13_restore_0 rfl (lv_at hl 0 rfl) ?_
  refine lv_aload_n hx hb dX13_restore_1 rfl (lv_at hl 0 rfl) ?_
  refine mm_get hC hM (k := 4) hp_this.1 rfl inAX13 (by decide) q7_9 rfl dX13_restore_2 ?_
  refine lv_if_eq (tgt := 12) hx hb dX13_restore_5 (by decide) (fun hcd => ?_) (fun hcd => ?_)
  · rw [if_pos hcd] at hf
    refine lv_iconst (v := 1) hx hb dX13_restore_12 (by decide) ?_
    refine mm_put hC hM (k := 0) tyX13 hp_this.1 rfl inAX13 tyX13_ok nmX13 (by decide) q7_5 rfl rfl rfl rfl (Nat.le_of_ble_eq_true rfl) dX13_restore_13 (fun w13 H locs hM hm => ?_)
    have hp_this : At13 G w13 b 1 changes errorAt failedAt isSaved v before saved past far scratch best thenX thenY thenMet text line isLeft words wordAt textN hereP endP lineN isWrong isDoing := ⟨hm.1, hm.keep (hp_this.2.1) (by omega), hm.keep (hp_this.2.2.1) (by omega), hm.keep (hp_this.2.2.2.1) (by omega), hm.keep (hp_this.2.2.2.2.1) (by omega), hm.keep (hp_this.2.2.2.2.2.1) (by omega), hm.keep (hp_this.2.2.2.2.2.2.1) (by omega), hm.keep (hp_this.2.2.2.2.2.2.2.1) (by omega), hm.keep (hp_this.2.2.2.2.2.2.2.2.1) (by omega), hm.keep (hp_this.2.2.2.2.2.2.2.2.2.1) (by omega), hm.keep (hp_this.2.2.2.2.2.2.2.2.2.2.1) (by omega), hm.keep (hp_this.2.2.2.2.2.2.2.2.2.2.2.1) (by omega), hm.keep (hp_this.2.2.2.2.2.2.2.2.2.2.2.2) (by omega)⟩
    have hF := hF.tr (hm.fr (by omega) (by omega))
    refine lv_aload_n hx hb dX13_restore_16 rfl (lv_at hl 0 rfl) ?_
    refine mm_get hC hM (k := 0) hp_this.1 rfl inAX13 (by decide) q7_5 rfl dX13_restore_17 ?_
    refine lv_if_eq (tgt := 25) hx hb dX13_restore_20 (by decide) (fun c => absurd c (by decide)) (fun _ => ?_)
    refine lv_iconst (v := 0) hx hb dX13_restore_23 (by decide) ?_
    cases hf
    exact hret hM dX13_restore_24 rfl ⟨rfl, hp_this, hF⟩
  · rw [if_neg hcd] at hf
    refine lv_iconst (v := 0) hx hb dX13_restore_8 (by decide) ?_
    refine lv_goto (tgt := 13) hx hb dX13_restore_9 (by decide) ?_
    refine mm_put hC hM (k := 0) tyX13 hp_this.1 rfl inAX13 tyX13_ok nmX13 (by decide) q7_5 rfl rfl rfl rfl (Nat.le_of_ble_eq_true rfl) dX13_restore_13 (fun w13 H locs hM hm => ?_)
    have hp_this : At13 G w13 b 0 changes errorAt failedAt isSaved v before saved past far scratch best thenX thenY thenMet text line isLeft words wordAt textN hereP endP lineN isWrong isDoing := ⟨hm.1, hm.keep (hp_this.2.1) (by omega), hm.keep (hp_this.2.2.1) (by omega), hm.keep (hp_this.2.2.2.1) (by omega), hm.keep (hp_this.2.2.2.2.1) (by omega), hm.keep (hp_this.2.2.2.2.2.1) (by omega), hm.keep (hp_this.2.2.2.2.2.2.1) (by omega), hm.keep (hp_this.2.2.2.2.2.2.2.1) (by omega), hm.keep (hp_this.2.2.2.2.2.2.2.2.1) (by omega), hm.keep (hp_this.2.2.2.2.2.2.2.2.2.1) (by omega), hm.keep (hp_this.2.2.2.2.2.2.2.2.2.2.1) (by omega), hm.keep (hp_this.2.2.2.2.2.2.2.2.2.2.2.1) (by omega), hm.keep (hp_this.2.2.2.2.2.2.2.2.2.2.2.2) (by omega)⟩
    have hF := hF.tr (hm.fr (by omega) (by omega))
    refine lv_aload_n hx hb dX13_restore_16 rfl (lv_at hl 0 rfl) ?_
    refine mm_get hC hM (k := 0) hp_this.1 rfl inAX13 (by decide) q7_5 rfl dX13_restore_17 ?_
    refine lv_if_eq (tgt := 25) hx hb dX13_restore_20 (by decide) (fun _ => ?_) (fun c => absurd (by decide) c)
    refine lv_aload_n hx hb dX13_restore_25 rfl (lv_at hl 0 rfl) ?_
    refine mm_get hC hM (k := 5) hp_this.1 rfl inAX13 (by decide) q7_10 rfl dX13_restore_26 ?_
    refine lv_aload_n hx hb dX13_restore_29 rfl (lv_at hl 0 rfl) ?_
    refine mm_get hC hM (k := 7) hp_this.1 rfl inAX13 (by decide) q7_12 rfl dX13_restore_30 ?_
    obtain ⟨q33, hq33, hf⟩ := mm_bd hf
    refine mm_Sv (rest := []) hC hM (c_X13_lays l hq33 (hp_this.2.1) (hp_this.2.2.2.1) (by omega)) q7_98 q1_12 ykX13_lays q7_96 q7_97 ⟨rfl, rfl⟩ ⟨Nat.le_of_ble_eq_true rfl, Nat.le_of_ble_eq_true rfl⟩ rfl hl.1 rfl (Nat.le_of_ble_eq_true rfl) dX13_restore_33 ⟨Nat.le_of_ble_eq_true rfl, Nat.le_of_ble_eq_true rfl⟩ (fun w33 H locs hM hw => ?_)
    obtain ⟨hn_p0, hfr⟩ := hw
    have hp_this : At13 G w33 b 0 changes errorAt failedAt isSaved q33 before saved past far scratch best thenX thenY thenMet text line isLeft words wordAt textN hereP endP lineN isWrong isDoing := ⟨hfr.keep (hp_this.1) (by omega), hn_p0, hfr.keep (hp_this.2.2.1) (by omega), hfr.keep (hp_this.2.2.2.1) (by omega), hfr.keep (hp_this.2.2.2.2.1) (by omega), hfr.keep (hp_this.2.2.2.2.2.1) (by omega), hfr.keep (hp_this.2.2.2.2.2.2.1) (by omega), hfr.keep (hp_this.2.2.2.2.2.2.2.1) (by omega), hfr.keep (hp_this.2.2.2.2.2.2.2.2.1) (by omega), hfr.keep (hp_this.2.2.2.2.2.2.2.2.2.1) (by omega), hfr.keep (hp_this.2.2.2.2.2.2.2.2.2.2.1) (by omega), hfr.keep (hp_this.2.2.2.2.2.2.2.2.2.2.2.1) (by omega), hfr.keep (hp_this.2.2.2.2.2.2.2.2.2.2.2.2) (by omega)⟩
    have hF := hF.tr (hfr.wide (by omega) (by omega))
    refine lv_aload_n hx hb dX13_restore_36 rfl (lv_at hl 0 rfl) ?_
    refine lv_iconst (v := 0) hx hb dX13_restore_37 (by decide) ?_
    refine mm_put hC hM (k := 1) tyX13 hp_this.1 rfl inAX13 tyX13_ok nmX13 (by decide) q7_6 rfl rfl rfl rfl (Nat.le_of_ble_eq_true rfl) dX13_restore_38 (fun w38 H locs hM hm => ?_)
    have hp_this : At13 G w38 b 0 0 errorAt failedAt isSaved q33 before saved past far scratch best thenX thenY thenMet text line isLeft words wordAt textN hereP endP lineN isWrong isDoing := ⟨hm.1, hm.keep (hp_this.2.1) (by omega), hm.keep (hp_this.2.2.1) (by omega), hm.keep (hp_this.2.2.2.1) (by omega), hm.keep (hp_this.2.2.2.2.1) (by omega), hm.keep (hp_this.2.2.2.2.2.1) (by omega), hm.keep (hp_this.2.2.2.2.2.2.1) (by omega), hm.keep (hp_this.2.2.2.2.2.2.2.1) (by omega), hm.keep (hp_this.2.2.2.2.2.2.2.2.1) (by omega), hm.keep (hp_this.2.2.2.2.2.2.2.2.2.1) (by omega), hm.keep (hp_this.2.2.2.2.2.2.2.2.2.2.1) (by omega), hm.keep (hp_this.2.2.2.2.2.2.2.2.2.2.2.1) (by omega), hm.keep (hp_this.2.2.2.2.2.2.2.2.2.2.2.2) (by omega)⟩
    have hF := hF.tr (hm.fr (by omega) (by omega))
    refine lv_aload_n hx hb dX13_restore_41 rfl (lv_at hl 0 rfl) ?_
    refine mm_get hC hM (k := 5) hp_this.1 rfl inAX13 (by decide) q7_10 rfl dX13_restore_42 ?_
    refine lv_iconst (v := 3) hx hb dX13_restore_45 (by decide) ?_
    refine mm_ialdN (N := 3) hC hM (hp_this.2.1) (by decide) (by unfold vp_in; decide) dX13_restore_46 ?_
    cases hf
    exact hret hM dX13_restore_47 rfl ⟨rfl, hp_this, hF⟩
