def f_X8_copyFrom (moves : Nat → Int32) (lengths : Nat → Int32) (p1_moves : Nat → Int32) (p1_lengths : Nat → Int32) : Option ((Nat → Int32) × (Nat → Int32)) := some ((va_cpy p1_moves moves 0 0 120), (va_cpy p1_lengths lengths 0 0 6))
set_option maxHeartbeats 4000000 in
set_option maxRecDepth 100000 in
theorem c_X8_copyFrom (l : Launch) {G : mm_G} {w : va_W} {sz : Nat} {b : Nat} {b1 : Nat} {moves : Nat → Int32} {lengths : Nat → Int32} {p1_moves : Nat → Int32} {p1_lengths : Nat → Int32} {X : (Nat → Int32) × (Nat → Int32)} (hf : f_X8_copyFrom moves lengths p1_moves p1_lengths = some X) (hp_this : At8 G w b moves lengths) (hp_p1 : At8 G w b1 p1_moves p1_lengths) (hd0 : b + 3 ≤ b1 ∨ b1 + 3 ≤ b) : Met l yX8_copyFrom (Cond.code yX8_copyFrom cX8_copyFrom 2 none :: gAll) ({ frames := 1, cells := 0, slots := 0, locals := 60 }) (va_Pc [.ref b, .ref b1] (mm_Pre G w sz)) (mm_Qv G w sz (fun w' => At8 G w' b X.1 X.2 ∧ mm_fr w w' b (b + 3))) 0 0 (va_A w sz) := by
  refine mm_headV [.ref b, .ref b1] (by decide +kernel) rfl (Nat.le_of_ble_eq_true rfl) ?_
  intro p e s m args below meth c A Q hsz hC hM hret hnm ls hl
  have hx := hC.1.1
  have hb := hC.1.2.1
  have hl : lv_has ls 2 [(0, .ref b), (1, .ref b1)] := hl
  have hF : mm_fr w w b (b + 3) := mm_fr.rf
  rw [f_X8_copyFrom] at hf
  refine lv_aload_n hx hb dX8_copyFrom_0 rfl (lv_at hl 1 rfl) ?_
  refine mm_get hC hM (k := 0) hp_p1.1 rfl inAX8 (by decide) q1_114 rfl dX8_copyFrom_1 ?_
  refine lv_iconst (v := 0) hx hb dX8_copyFrom_4 (by decide) ?_
  refine lv_aload_n hx hb dX8_copyFrom_5 rfl (lv_at hl 0 rfl) ?_
  refine mm_get hC hM (k := 0) hp_this.1 rfl inAX8 (by decide) q1_114 rfl dX8_copyFrom_6 ?_
  refine lv_iconst (v := 0) hx hb dX8_copyFrom_9 (by decide) ?_
  refine lv_bipush (v := 120) hx hb dX8_copyFrom_10 (by decide) ?_
  refine mm_copy (S1 := 0) (D1 := 0) (N1 := 120) hC hM (hp_p1.2.1) (hp_this.2.1) (by decide) (by decide) (by decide) (by decide) (by decide) (by decide) (by decide) (by decide) (hC.1.2.2.1.trans hl.1.symm) q2_233 q2_235 q2_234 q1_19 (Nat.le_of_ble_eq_true rfl) (Nat.le_of_ble_eq_true rfl) dX8_copyFrom_12 (fun w12 H locs hM hm => ?_)
  have hp_this : At8 G w12 b (va_cpy p1_moves moves 0 0 120) lengths := ⟨hm.keep (hp_this.1) (by omega), hm.1, hm.keep (hp_this.2.2) (by omega)⟩
  have hp_p1 := hp_p1.up hm (by omega)
  have hF := hF.tr (hm.fr (by omega) (by omega))
  refine lv_aload_n hx hb dX8_copyFrom_15 rfl (lv_at hl 1 rfl) ?_
  refine mm_get hC hM (k := 1) hp_p1.1 rfl inAX8 (by decide) q1_115 rfl dX8_copyFrom_16 ?_
  refine lv_iconst (v := 0) hx hb dX8_copyFrom_19 (by decide) ?_
  refine lv_aload_n hx hb dX8_copyFrom_20 rfl (lv_at hl 0 rfl) ?_
  refine mm_get hC hM (k := 1) hp_this.1 rfl inAX8 (by decide) q1_115 rfl dX8_copyFrom_21 ?_
  refine lv_iconst (v := 0) hx hb dX8_copyFrom_24 (by decide) ?_
  refine lv_bipush (v := 6) hx hb dX8_copyFrom_25 (by decide) ?_
  refine mm_copy (S1 := 0) (D1 := 0) (N1 := 6) hC hM (hp_p1.2.2) (hp_this.2.2) (by decide) (by decide) (by decide) (by decide) (by decide) (by decide) (by decide) (by decide) (hC.1.2.2.1.trans hl.1.symm) q2_233 q2_235 q2_234 q1_19 (Nat.le_of_ble_eq_true rfl) (Nat.le_of_ble_eq_true rfl) dX8_copyFrom_27 (fun w27 H locs hM hm => ?_)
  have hp_this : At8 G w27 b (va_cpy p1_moves moves 0 0 120) (va_cpy p1_lengths lengths 0 0 6) := ⟨hm.keep (hp_this.1) (by omega), hm.keep (hp_this.2.1) (by omega), hm.1⟩
  have hp_p1 := hp_p1.up hm (by omega)
  have hF := hF.tr (hm.fr (by omega) (by omega))
  cases hf
  exact hret hM dX8_copyFrom_30 ⟨hp_this, hF⟩
def f_X8_moveIn (moves : Nat → Int32) (x1 : Int32) (x2 : Int32) : Option (Int32) := mm_g (mm_ck ((x1 * 20) + x2) 120) (some (moves ((x1 * 20) + x2).toNatClampNeg))
set_option maxHeartbeats 4000000 in
set_option maxRecDepth 100000 in
theorem c_X8_moveIn (l : Launch) {G : mm_G} {w : va_W} {sz : Nat} {b : Nat} {moves : Nat → Int32} {lengths : Nat → Int32} {x1 : Int32} {x2 : Int32} {X : Int32} (hf : f_X8_moveIn moves x1 x2 = some X) (hp_this : At8 G w b moves lengths) : Met l yX8_moveIn (Cond.code yX8_moveIn cX8_moveIn 3 (some .int) :: gAll) ({ frames := 0, cells := 0, slots := 0, locals := 0 }) (va_Pc [.ref b, .int x1, .int x2] (mm_Pre G w sz)) (mm_Qi G w sz (fun r w' => r = X ∧ w' = w)) 0 0 (va_A w sz) := by
  refine mm_headI [.ref b, .int x1, .int x2] (by decide +kernel) rfl (Nat.le_of_ble_eq_true rfl) ?_
  intro p e s m args below meth c A Q hsz hC hM hret ls hl
  have hx := hC.1.1
  have hb := hC.1.2.1
  have hl : lv_has ls 3 [(0, .ref b), (1, .int x1), (2, .int x2)] := hl
  rw [f_X8_moveIn] at hf
  refine lv_aload_n hx hb dX8_moveIn_0 rfl (lv_at hl 0 rfl) ?_
  refine mm_get hC hM (k := 0) hp_this.1 rfl inAX8 (by decide) q1_114 rfl dX8_moveIn_1 ?_
  refine lv_iload_n hx hb dX8_moveIn_4 rfl (lv_at hl 1 rfl) ?_
  refine lv_bipush (v := 20) hx hb dX8_moveIn_5 (by decide) ?_
  refine lv_imul hx hb dX8_moveIn_7 ?_
  refine lv_iload_n hx hb dX8_moveIn_8 rfl (lv_at hl 2 rfl) ?_
  refine lv_iadd hx hb dX8_moveIn_9 ?_
  obtain ⟨hg10, hf⟩ := mm_gd hf
  refine mm_iald hC hM (hp_this.2.1) hg10 dX8_moveIn_10 ?_
  cases hf
  exact hret hM dX8_moveIn_11 rfl ⟨rfl, rfl⟩
def f_X8_setMove (moves : Nat → Int32) (x1 : Int32) (x2 : Int32) (x3 : Int32) : Option (Nat → Int32) := mm_g (mm_ck ((x1 * 20) + x2) 120) (some (upd moves (((x1 * 20) + x2).toNatClampNeg) x3))
set_option maxHeartbeats 4000000 in
set_option maxRecDepth 100000 in
theorem c_X8_setMove (l : Launch) {G : mm_G} {w : va_W} {sz : Nat} {b : Nat} {moves : Nat → Int32} {lengths : Nat → Int32} {x1 : Int32} {x2 : Int32} {x3 : Int32} {X : Nat → Int32} (hf : f_X8_setMove moves x1 x2 x3 = some X) (hp_this : At8 G w b moves lengths) : Met l yX8_setMove (Cond.code yX8_setMove cX8_setMove 4 none :: gAll) ({ frames := 0, cells := 0, slots := 0, locals := 0 }) (va_Pc [.ref b, .int x1, .int x2, .int x3] (mm_Pre G w sz)) (mm_Qv G w sz (fun w' => At8 G w' b X lengths ∧ mm_fr w w' b (b + 3))) 0 0 (va_A w sz) := by
  refine mm_headV [.ref b, .int x1, .int x2, .int x3] (by decide +kernel) rfl (Nat.le_of_ble_eq_true rfl) ?_
  intro p e s m args below meth c A Q hsz hC hM hret hnm ls hl
  have hx := hC.1.1
  have hb := hC.1.2.1
  have hl : lv_has ls 4 [(0, .ref b), (1, .int x1), (2, .int x2), (3, .int x3)] := hl
  have hF : mm_fr w w b (b + 3) := mm_fr.rf
  rw [f_X8_setMove] at hf
  refine lv_aload_n hx hb dX8_setMove_0 rfl (lv_at hl 0 rfl) ?_
  refine mm_get hC hM (k := 0) hp_this.1 rfl inAX8 (by decide) q1_114 rfl dX8_setMove_1 ?_
  refine lv_iload_n hx hb dX8_setMove_4 rfl (lv_at hl 1 rfl) ?_
  refine lv_bipush (v := 20) hx hb dX8_setMove_5 (by decide) ?_
  refine lv_imul hx hb dX8_setMove_7 ?_
  refine lv_iload_n hx hb dX8_setMove_8 rfl (lv_at hl 2 rfl) ?_
  refine lv_iadd hx hb dX8_setMove_9 ?_
  refine lv_iload_n hx hb dX8_setMove_10 rfl (lv_at hl 3 rfl) ?_
  obtain ⟨hg11, hf⟩ := mm_gd hf
  refine mm_iast hC hM (hp_this.2.1) hg11 dX8_setMove_11 (fun w11 H locs hM hm => ?_)
  have hp_this : At8 G w11 b (upd moves (((x1 * 20) + x2).toNatClampNeg) x3) lengths := ⟨hm.keep (hp_this.1) (by omega), hm.1, hm.keep (hp_this.2.2) (by omega)⟩
  have hF := hF.tr (hm.fr (by omega) (by omega))
  cases hf
  exact hret hM dX8_setMove_12 ⟨hp_this, hF⟩
def f_X8_extend (K : Nat) (moves : Nat → Int32) (lengths : Nat → Int32) (x1 : Int32) (x2 : Int32) : Option (Int32 × (Nat → Int32) × (Nat → Int32)) := (f_X12_isPlan x1).bind fun q1 => if q1 = 0 then some ((-1), moves, lengths) else (f_X12_moveOf K x2).bind fun q10 => if q10 = (-1) then some ((-4), moves, lengths) else mm_g (mm_ck x1 6) (if (lengths x1.toNatClampNeg) < 20 then mm_g (mm_ck x1 6) ((f_X8_setMove moves x1 (lengths x1.toNatClampNeg) q10).bind fun q45 => mm_g (mm_ck x1 6) (mm_g (mm_ck x1 6) (mm_g (mm_ck x1 6) (some (((upd lengths x1.toNatClampNeg ((lengths x1.toNatClampNeg) + 1)) x1.toNatClampNeg), q45, (upd lengths x1.toNatClampNeg ((lengths x1.toNatClampNeg) + 1))))))) else some ((-3), moves, lengths))
set_option maxHeartbeats 4000000 in
set_option maxRecDepth 100000 in
theorem c_X8_extend (l : Launch) {G : mm_G} {K : Nat} {w : va_W} {sz : Nat} {b : Nat} {moves : Nat → Int32} {lengths : Nat → Int32} {x1 : Int32} {x2 : Int32} {X : Int32 × (Nat → Int32) × (Nat → Int32)} (hf : f_X8_extend K moves lengths x1 x2 = some X) (hp_this : At8 G w b moves lengths) : Met l yX8_extend (Cond.code yX8_extend cX8_extend 4 (some .int) :: gAll) ({ frames := 1, cells := 0, slots := 0, locals := 23 }) (va_Pc [.ref b, .int x1, .int x2] (mm_Pre G w sz)) (mm_Qi G w sz (fun r w' => r = X.1 ∧ At8 G w' b X.2.1 X.2.2 ∧ mm_fr w w' b (b + 3))) 0 0 (va_A w sz) := by
  refine mm_headI [.ref b, .int x1, .int x2] (by decide +kernel) rfl (Nat.le_of_ble_eq_true rfl) ?_
  intro p e s m args below meth c A Q hsz hC hM hret ls hl
  have hx := hC.1.1
  have hb := hC.1.2.1
  have hl : lv_has ls 4 [(0, .ref b), (1, .int x1), (2, .int x2)] := hl
  have hF : mm_fr w w b (b + 3) := mm_fr.rf
  rw [f_X8_extend] at hf
  refine lv_iload_n hx hb dX8_extend_0 rfl (lv_at hl 1 rfl) ?_
  obtain ⟨q1, hq1, hf⟩ := mm_bd hf
  refine mm_SNi (rest := []) hC hM (c_X12_isPlan l hq1) q4_211 q1_1 ykX12_isPlan q4_209 q4_210 ⟨rfl, rfl⟩ ⟨Nat.le_of_ble_eq_true rfl, Nat.le_of_ble_eq_true rfl⟩ rfl hl.1 rfl (Nat.le_of_ble_eq_true rfl) dX8_extend_1 ⟨Nat.le_of_ble_eq_true rfl, Nat.le_of_ble_eq_true rfl⟩ (fun r w1 H locs hM hw => ?_)
  obtain ⟨hr, hw⟩ := hw
  rw [hr]
  rw [hw] at hM
  refine lv_if_ne (tgt := 9) hx hb dX8_extend_4 (by decide) (fun hcd => ?_) (fun hcd => ?_)
  · rw [if_neg hcd] at hf
    refine lv_iload_n hx hb dX8_extend_9 rfl (lv_at hl 2 rfl) ?_
    obtain ⟨q10, hq10, hf⟩ := mm_bd hf
    refine mm_SNi (rest := []) hC hM (c_X12_moveOf l hq10) q4_214 q1_1 ykX12_moveOf q4_212 q4_213 ⟨rfl, rfl⟩ ⟨Nat.le_of_ble_eq_true rfl, Nat.le_of_ble_eq_true rfl⟩ rfl hl.1 rfl (Nat.le_of_ble_eq_true rfl) dX8_extend_10 ⟨Nat.le_of_ble_eq_true rfl, Nat.le_of_ble_eq_true rfl⟩ (fun r w10 H locs hM hw => ?_)
    obtain ⟨hr, hw⟩ := hw
    rw [hr]
    rw [hw] at hM
    refine lv_istore_n (lv' := [(3, .int q10), (0, .ref b), (1, .int x1), (2, .int x2)]) hx hb dX8_extend_13 rfl hl (by decide) rfl (fun ls hl => ?_)
    refine lv_iload_n hx hb dX8_extend_14 rfl (lv_at hl 0 rfl) ?_
    refine lv_iconst (v := (-1)) hx hb dX8_extend_15 (by decide) ?_
    refine lv_icmp_ne (tgt := 22) hx hb dX8_extend_16 (by decide) (fun hcd => ?_) (fun hcd => ?_)
    · rw [if_neg hcd] at hf
      refine lv_aload_n hx hb dX8_extend_22 rfl (lv_at hl 1 rfl) ?_
      refine mm_get hC hM (k := 1) hp_this.1 rfl inAX8 (by decide) q1_115 rfl dX8_extend_23 ?_
      refine lv_iload_n hx hb dX8_extend_26 rfl (lv_at hl 2 rfl) ?_
      obtain ⟨hg27, hf⟩ := mm_gd hf
      refine mm_iald hC hM (hp_this.2.2) hg27 dX8_extend_27 ?_
      refine lv_bipush (v := 20) hx hb dX8_extend_28 (by decide) ?_
      refine lv_icmp_lt (tgt := 36) hx hb dX8_extend_30 (by decide) (fun hcd => ?_) (fun hcd => ?_)
      · rw [if_pos hcd] at hf
        refine lv_aload_n hx hb dX8_extend_36 rfl (lv_at hl 1 rfl) ?_
        refine lv_iload_n hx hb dX8_extend_37 rfl (lv_at hl 2 rfl) ?_
        refine lv_aload_n hx hb dX8_extend_38 rfl (lv_at hl 1 rfl) ?_
        refine mm_get hC hM (k := 1) hp_this.1 rfl inAX8 (by decide) q1_115 rfl dX8_extend_39 ?_
        refine lv_iload_n hx hb dX8_extend_42 rfl (lv_at hl 2 rfl) ?_
        obtain ⟨hg43, hf⟩ := mm_gd hf
        refine mm_iald hC hM (hp_this.2.2) hg43 dX8_extend_43 ?_
        refine lv_iload_n hx hb dX8_extend_44 rfl (lv_at hl 0 rfl) ?_
        obtain ⟨q45, hq45, hf⟩ := mm_bd hf
        refine mm_Vv (rest := []) hC hM (c_X8_setMove l hq45 hp_this) q4_220 q1_5 ykX8_setMove q4_217 q4_219 qp_e5526b43 hp_this.1 rfl ⟨rfl, rfl⟩ ⟨Nat.le_of_ble_eq_true rfl, Nat.le_of_ble_eq_true rfl⟩ rfl hl.1 rfl (Nat.le_of_ble_eq_true rfl) dX8_extend_45 ⟨Nat.le_of_ble_eq_true rfl, Nat.le_of_ble_eq_true rfl⟩ (fun w45 H locs hM hw => ?_)
        obtain ⟨hn_this, hfr⟩ := hw
        have hp_this := hn_this
        have hF := hF.tr (hfr.wide (by omega) (by omega))
        refine lv_aload_n hx hb dX8_extend_48 rfl (lv_at hl 1 rfl) ?_
        refine mm_get hC hM (k := 1) hp_this.1 rfl inAX8 (by decide) q1_115 rfl dX8_extend_49 ?_
        refine lv_iload_n hx hb dX8_extend_52 rfl (lv_at hl 2 rfl) ?_
        refine lv_dup2_11 hx hb dX8_extend_53 rfl rfl ?_
        obtain ⟨hg54, hf⟩ := mm_gd hf
        refine mm_iald hC hM (hp_this.2.2) hg54 dX8_extend_54 ?_
        refine lv_iconst (v := 1) hx hb dX8_extend_55 (by decide) ?_
        refine lv_iadd hx hb dX8_extend_56 ?_
        obtain ⟨hg57, hf⟩ := mm_gd hf
        refine mm_iast hC hM (hp_this.2.2) hg57 dX8_extend_57 (fun w57 H locs hM hm => ?_)
        have hp_this : At8 G w57 b q45 (upd lengths x1.toNatClampNeg ((lengths x1.toNatClampNeg) + 1)) := ⟨hm.keep (hp_this.1) (by omega), hm.keep (hp_this.2.1) (by omega), hm.1⟩
        have hF := hF.tr (hm.fr (by omega) (by omega))
        refine lv_aload_n hx hb dX8_extend_58 rfl (lv_at hl 1 rfl) ?_
        refine mm_get hC hM (k := 1) hp_this.1 rfl inAX8 (by decide) q1_115 rfl dX8_extend_59 ?_
        refine lv_iload_n hx hb dX8_extend_62 rfl (lv_at hl 2 rfl) ?_
        obtain ⟨hg63, hf⟩ := mm_gd hf
        refine mm_iald hC hM (hp_this.2.2) hg63 dX8_extend_63 ?_
        cases hf
        exact hret hM dX8_extend_64 rfl ⟨rfl, hp_this, hF⟩
      · rw [if_neg hcd] at hf
        refine lv_bipush (v := (-3)) hx hb dX8_extend_33 (by decide) ?_
        cases hf
        exact hret hM dX8_extend_35 rfl ⟨rfl, hp_this, hF⟩
    · rw [if_pos hcd] at hf
      refine lv_bipush (v := (-4)) hx hb dX8_extend_19 (by decide) ?_
      cases hf
      exact hret hM dX8_extend_21 rfl ⟨rfl, hp_this, hF⟩
  · rw [if_pos hcd] at hf
    refine lv_iconst (v := (-1)) hx hb dX8_extend_7 (by decide) ?_
    cases hf
    exact hret hM dX8_extend_8 rfl ⟨rfl, hp_this, hF⟩
def f_X8_empty (lengths : Nat → Int32) (x1 : Int32) : Option (Int32 × (Nat → Int32)) := (f_X12_isPlan x1).bind fun q1 => if q1 = 0 then some ((-1), lengths) else mm_g (mm_ck x1 6) (mm_g (mm_ck x1 6) (some ((lengths x1.toNatClampNeg), (upd lengths x1.toNatClampNeg 0))))
set_option maxHeartbeats 4000000 in
set_option maxRecDepth 100000 in
theorem c_X8_empty (l : Launch) {G : mm_G} {w : va_W} {sz : Nat} {b : Nat} {moves : Nat → Int32} {lengths : Nat → Int32} {x1 : Int32} {X : Int32 × (Nat → Int32)} (hf : f_X8_empty lengths x1 = some X) (hp_this : At8 G w b moves lengths) : Met l yX8_empty (Cond.code yX8_empty cX8_empty 3 (some .int) :: gAll) ({ frames := 1, cells := 0, slots := 0, locals := 20 }) (va_Pc [.ref b, .int x1] (mm_Pre G w sz)) (mm_Qi G w sz (fun r w' => r = X.1 ∧ At8 G w' b moves X.2 ∧ mm_fr w w' b (b + 3))) 0 0 (va_A w sz) := by
  refine mm_headI [.ref b, .int x1] (by decide +kernel) rfl (Nat.le_of_ble_eq_true rfl) ?_
  intro p e s m args below meth c A Q hsz hC hM hret ls hl
  have hx := hC.1.1
  have hb := hC.1.2.1
  have hl : lv_has ls 3 [(0, .ref b), (1, .int x1)] := hl
  have hF : mm_fr w w b (b + 3) := mm_fr.rf
  rw [f_X8_empty] at hf
  refine lv_iload_n hx hb dX8_empty_0 rfl (lv_at hl 1 rfl) ?_
  obtain ⟨q1, hq1, hf⟩ := mm_bd hf
  refine mm_SNi (rest := []) hC hM (c_X12_isPlan l hq1) q4_211 q1_1 ykX12_isPlan q4_209 q4_210 ⟨rfl, rfl⟩ ⟨Nat.le_of_ble_eq_true rfl, Nat.le_of_ble_eq_true rfl⟩ rfl hl.1 rfl (Nat.le_of_ble_eq_true rfl) dX8_empty_1 ⟨Nat.le_of_ble_eq_true rfl, Nat.le_of_ble_eq_true rfl⟩ (fun r w1 H locs hM hw => ?_)
  obtain ⟨hr, hw⟩ := hw
  rw [hr]
  rw [hw] at hM
  refine lv_if_ne (tgt := 9) hx hb dX8_empty_4 (by decide) (fun hcd => ?_) (fun hcd => ?_)
  · rw [if_neg hcd] at hf
    refine lv_aload_n hx hb dX8_empty_9 rfl (lv_at hl 0 rfl) ?_
    refine mm_get hC hM (k := 1) hp_this.1 rfl inAX8 (by decide) q1_115 rfl dX8_empty_10 ?_
    refine lv_iload_n hx hb dX8_empty_13 rfl (lv_at hl 1 rfl) ?_
    obtain ⟨hg14, hf⟩ := mm_gd hf
    refine mm_iald hC hM (hp_this.2.2) hg14 dX8_empty_14 ?_
    refine lv_istore_n (lv' := [(2, .int (lengths x1.toNatClampNeg)), (0, .ref b), (1, .int x1)]) hx hb dX8_empty_15 rfl hl (by decide) rfl (fun ls hl => ?_)
    refine lv_aload_n hx hb dX8_empty_16 rfl (lv_at hl 1 rfl) ?_
    refine mm_get hC hM (k := 1) hp_this.1 rfl inAX8 (by decide) q1_115 rfl dX8_empty_17 ?_
    refine lv_iload_n hx hb dX8_empty_20 rfl (lv_at hl 2 rfl) ?_
    refine lv_iconst (v := 0) hx hb dX8_empty_21 (by decide) ?_
    obtain ⟨hg22, hf⟩ := mm_gd hf
    refine mm_iast hC hM (hp_this.2.2) hg22 dX8_empty_22 (fun w22 H locs hM hm => ?_)
    have hp_this : At8 G w22 b moves (upd lengths x1.toNatClampNeg 0) := ⟨hm.keep (hp_this.1) (by omega), hm.keep (hp_this.2.1) (by omega), hm.1⟩
    have hF := hF.tr (hm.fr (by omega) (by omega))
    refine lv_iload_n hx hb dX8_empty_23 rfl (lv_at hl 0 rfl) ?_
    cases hf
    exact hret hM dX8_empty_24 rfl ⟨rfl, hp_this, hF⟩
  · rw [if_pos hcd] at hf
    refine lv_iconst (v := (-1)) hx hb dX8_empty_7 (by decide) ?_
    cases hf
    exact hret hM dX8_empty_8 rfl ⟨rfl, hp_this, hF⟩
def f_X8_putMirrored_L26 (x1 : Int32) (x2 : Int32) (x3 : Int32) : Nat → (Int32) → (Nat → Int32) → Option (Nat → Int32)
  | 0, _, _ => none
  | n + 1, x4, moves => if x3 ≤ x4 then some moves else (f_X8_moveIn moves x1 x4).bind fun q40 => (f_X12_mirrored q40).bind fun q43 => (f_X8_setMove moves x2 x4 q43).bind fun q46 => f_X8_putMirrored_L26 x1 x2 x3 n (x4 + 1) q46
def f_X8_putMirrored (K : Nat) (moves : Nat → Int32) (lengths : Nat → Int32) (x1 : Int32) (x2 : Int32) : Option (Int32 × (Nat → Int32) × (Nat → Int32)) := (f_X12_isPlan x1).bind fun q1 => if q1 = 0 then some ((-1), moves, lengths) else (f_X12_isPlan x2).bind fun q8 => if q8 = 0 then some ((-1), moves, lengths) else mm_g (mm_ck x1 6) ((f_X8_putMirrored_L26 x1 x2 (lengths x1.toNatClampNeg) K 0 moves).bind fun q26 => mm_g (mm_ck x2 6) (some ((lengths x1.toNatClampNeg), q26, (upd lengths x2.toNatClampNeg (lengths x1.toNatClampNeg)))))
set_option maxHeartbeats 4000000 in
set_option maxRecDepth 100000 in
theorem c_X8_putMirrored (l : Launch) {G : mm_G} {K : Nat} {w : va_W} {sz : Nat} {b : Nat} {moves : Nat → Int32} {lengths : Nat → Int32} {x1 : Int32} {x2 : Int32} {X : Int32 × (Nat → Int32) × (Nat → Int32)} (hf : f_X8_putMirrored K moves lengths x1 x2 = some X) (hp_this : At8 G w b moves lengths) : Met l yX8_putMirrored (Cond.code yX8_putMirrored cX8_putMirrored 5 (some .int) :: gAll) ({ frames := 2, cells := 0, slots := 0, locals := 40 }) (va_Pc [.ref b, .int x1, .int x2] (mm_Pre G w sz)) (mm_Qi G w sz (fun r w' => r = X.1 ∧ At8 G w' b X.2.1 X.2.2 ∧ mm_fr w w' b (b + 3))) 0 0 (va_A w sz) := by
  refine mm_headI [.ref b, .int x1, .int x2] (by decide +kernel) rfl (Nat.le_of_ble_eq_true rfl) ?_
  intro p e s m args below meth c A Q hsz hC hM hret ls hl
  have hx := hC.1.1
  have hb := hC.1.2.1
  have hl : lv_has ls 5 [(0, .ref b), (1, .int x1), (2, .int x2)] := hl
  have hF : mm_fr w w b (b + 3) := mm_fr.rf
  rw [f_X8_putMirrored] at hf
  refine lv_iload_n hx hb dX8_putMirrored_0 rfl (lv_at hl 1 rfl) ?_
  obtain ⟨q1, hq1, hf⟩ := mm_bd hf
  refine mm_SNi (rest := []) hC hM (c_X12_isPlan l hq1) q4_211 q1_1 ykX12_isPlan q4_209 q4_210 ⟨rfl, rfl⟩ ⟨Nat.le_of_ble_eq_true rfl, Nat.le_of_ble_eq_true rfl⟩ rfl hl.1 rfl (Nat.le_of_ble_eq_true rfl) dX8_putMirrored_1 ⟨Nat.le_of_ble_eq_true rfl, Nat.le_of_ble_eq_true rfl⟩ (fun r w1 H locs hM hw => ?_)
  obtain ⟨hr, hw⟩ := hw
  rw [hr]
  rw [hw] at hM
  refine lv_if_eq (tgt := 14) hx hb dX8_putMirrored_4 (by decide) (fun hcd => ?_) (fun hcd => ?_)
  · rw [if_pos hcd] at hf
    refine lv_iconst (v := (-1)) hx hb dX8_putMirrored_14 (by decide) ?_
    cases hf
    exact hret hM dX8_putMirrored_15 rfl ⟨rfl, hp_this, hF⟩
  · rw [if_neg hcd] at hf
    refine lv_iload_n hx hb dX8_putMirrored_7 rfl (lv_at hl 2 rfl) ?_
    obtain ⟨q8, hq8, hf⟩ := mm_bd hf
    refine mm_SNi (rest := []) hC hM (c_X12_isPlan l hq8) q4_211 q1_1 ykX12_isPlan q4_209 q4_210 ⟨rfl, rfl⟩ ⟨Nat.le_of_ble_eq_true rfl, Nat.le_of_ble_eq_true rfl⟩ rfl hl.1 rfl (Nat.le_of_ble_eq_true rfl) dX8_putMirrored_8 ⟨Nat.le_of_ble_eq_true rfl, Nat.le_of_ble_eq_true rfl⟩ (fun r w8 H locs hM hw => ?_)
    obtain ⟨hr, hw⟩ := hw
    rw [hr]
    rw [hw] at hM
    refine lv_if_ne (tgt := 16) hx hb dX8_putMirrored_11 (by decide) (fun hcd => ?_) (fun hcd => ?_)
    · rw [if_neg hcd] at hf
      refine lv_aload_n hx hb dX8_putMirrored_16 rfl (lv_at hl 0 rfl) ?_
      refine mm_get hC hM (k := 1) hp_this.1 rfl inAX8 (by decide) q1_115 rfl dX8_putMirrored_17 ?_
      refine lv_iload_n hx hb dX8_putMirrored_20 rfl (lv_at hl 1 rfl) ?_
      obtain ⟨hg21, hf⟩ := mm_gd hf
      refine mm_iald hC hM (hp_this.2.2) hg21 dX8_putMirrored_21 ?_
      refine lv_istore_n (lv' := [(3, .int (lengths x1.toNatClampNeg)), (0, .ref b), (1, .int x1), (2, .int x2)]) hx hb dX8_putMirrored_22 rfl hl (by decide) rfl (fun ls hl => ?_)
      refine lv_iconst (v := 0) hx hb dX8_putMirrored_23 (by decide) ?_
      refine lv_istore (lv' := [(4, .int 0), (3, .int (lengths x1.toNatClampNeg)), (0, .ref b), (1, .int x1), (2, .int x2)]) hx hb dX8_putMirrored_24 hl (by decide) rfl (fun ls hl => ?_)
      have L26 : ∀ (n : Nat) (L26_x4 : Int32) (L26_moves : Nat → Int32) (X : Nat → Int32), f_X8_putMirrored_L26 x1 x2 (lengths x1.toNatClampNeg) n L26_x4 L26_moves = some X → ∀ (L26_w : va_W) (H : Heap) (locs : List Loc), mm_S G A s.heap L26_w H locs → At8 G L26_w b L26_moves lengths → mm_fr w L26_w b (b + 3) → ∀ (ls : Array Slot), lv_has ls 5 [(0, .ref b), (1, .int x1), (2, .int x2), (3, .int (lengths x1.toNatClampNeg)), (4, .int L26_x4)] → (∀ (w9 : va_W) (H : Heap) (locs : List Loc), mm_S G A s.heap w9 H locs → At8 G w9 b X lengths → mm_fr w w9 b (b + 3) → ∀ (ls : Array Slot), lv_has ls 5 [(0, .ref b), (2, .int x2), (3, .int (lengths x1.toNatClampNeg))] → W p l e ({ frames := 2, cells := 0, slots := 0, locals := 40 } : Room) s m args below meth c H locs 0 0 Q (F0 m 55 ls [])) → W p l e ({ frames := 2, cells := 0, slots := 0, locals := 40 } : Room) s m args below meth c H locs 0 0 Q (F0 m 26 ls []) := by
        intro n
        induction n with
        | zero => intro L26_x4 L26_moves X hf; cases hf
        | succ n ih =>
          intro L26_x4 L26_moves X hf L26_w H locs hM hp_this hF ls hl hk
          rw [f_X8_putMirrored_L26] at hf
          refine lv_iload hx hb dX8_putMirrored_26 (lv_at hl 4 rfl) ?_
          refine lv_iload_n hx hb dX8_putMirrored_28 rfl (lv_at hl 3 rfl) ?_
          refine lv_icmp_ge (tgt := 55) hx hb dX8_putMirrored_29 (by decide) (fun hcd => ?_) (fun hcd => ?_)
          · rw [if_pos hcd] at hf
            cases hf
            exact hk _ _ _ hM hp_this hF _ (lv_sub hl [0, 2, 3] rfl)
          · rw [if_neg hcd] at hf
            refine lv_aload_n hx hb dX8_putMirrored_32 rfl (lv_at hl 0 rfl) ?_
            refine lv_iload_n hx hb dX8_putMirrored_33 rfl (lv_at hl 2 rfl) ?_
            refine lv_iload hx hb dX8_putMirrored_34 (lv_at hl 4 rfl) ?_
            refine lv_aload_n hx hb dX8_putMirrored_36 rfl (lv_at hl 0 rfl) ?_
            refine lv_iload_n hx hb dX8_putMirrored_37 rfl (lv_at hl 1 rfl) ?_
            refine lv_iload hx hb dX8_putMirrored_38 (lv_at hl 4 rfl) ?_
            obtain ⟨q40, hq40, hf⟩ := mm_bd hf
            refine mm_Vi (rest := [.int L26_x4, .int x2, .ref b]) hC hM (c_X8_moveIn l hq40 hp_this) q2_225 q1_5 ykX8_moveIn q2_222 q2_223 q2_224 hp_this.1 rfl ⟨rfl, rfl⟩ ⟨Nat.le_of_ble_eq_true rfl, Nat.le_of_ble_eq_true rfl⟩ rfl hl.1 rfl (Nat.le_of_ble_eq_true rfl) dX8_putMirrored_40 ⟨Nat.le_of_ble_eq_true rfl, Nat.le_of_ble_eq_true rfl⟩ (fun r w40 H locs hM hw => ?_)
            obtain ⟨hr, hw⟩ := hw
            rw [hr]
            rw [hw] at hM
            obtain ⟨q43, hq43, hf⟩ := mm_bd hf
            refine mm_SNi (rest := [.int L26_x4, .int x2, .ref b]) hC hM (c_X12_mirrored l hq43) q5_5 q1_1 ykX12_mirrored q5_3 q5_4 ⟨rfl, rfl⟩ ⟨Nat.le_of_ble_eq_true rfl, Nat.le_of_ble_eq_true rfl⟩ rfl hl.1 rfl (Nat.le_of_ble_eq_true rfl) dX8_putMirrored_43 ⟨Nat.le_of_ble_eq_true rfl, Nat.le_of_ble_eq_true rfl⟩ (fun r w43 H locs hM hw => ?_)
            obtain ⟨hr, hw⟩ := hw
            rw [hr]
            rw [hw] at hM
            obtain ⟨q46, hq46, hf⟩ := mm_bd hf
            refine mm_Vv (rest := []) hC hM (c_X8_setMove l hq46 hp_this) q4_220 q1_5 ykX8_setMove q4_217 q4_219 qp_e5526b43 hp_this.1 rfl ⟨rfl, rfl⟩ ⟨Nat.le_of_ble_eq_true rfl, Nat.le_of_ble_eq_true rfl⟩ rfl hl.1 rfl (Nat.le_of_ble_eq_true rfl) dX8_putMirrored_46 ⟨Nat.le_of_ble_eq_true rfl, Nat.le_of_ble_eq_true rfl⟩ (fun w46 H locs hM hw => ?_)
            obtain ⟨hn_this, hfr⟩ := hw
            have hp_this := hn_this
            have hF := hF.tr (hfr.wide (by omega) (by omega))
            refine lv_iinc (v := (L26_x4 + 1)) (lv' := [(4, .int (L26_x4 + 1)), (0, .ref b), (1, .int x1), (2, .int x2), (3, .int (lengths x1.toNatClampNeg))]) hx hb dX8_putMirrored_49 hl (k := 4) rfl rfl (by decide) rfl (fun ls hl => ?_)
            refine lv_goto (tgt := 26) hx hb dX8_putMirrored_52 (by decide) ?_
            exact ih _ _ _ hf _ _ _ hM hp_this hF _ (lv_sub hl [1, 2, 3, 4, 0] rfl) hk
      obtain ⟨q26, hq26, hf⟩ := mm_bd hf
      refine L26 K _ _ _ hq26 _ _ _ hM hp_this hF _ (lv_sub hl [2, 3, 4, 1, 0] rfl) (fun w26 H locs hM hp_this hF ls hl => ?_)
      refine lv_aload_n hx hb dX8_putMirrored_55 rfl (lv_at hl 0 rfl) ?_
      refine mm_get hC hM (k := 1) hp_this.1 rfl inAX8 (by decide) q1_115 rfl dX8_putMirrored_56 ?_
      refine lv_iload_n hx hb dX8_putMirrored_59 rfl (lv_at hl 1 rfl) ?_
      refine lv_iload_n hx hb dX8_putMirrored_60 rfl (lv_at hl 2 rfl) ?_
      obtain ⟨hg61, hf⟩ := mm_gd hf
      refine mm_iast hC hM (hp_this.2.2) hg61 dX8_putMirrored_61 (fun w61 H locs hM hm => ?_)
      have hp_this : At8 G w61 b q26 (upd lengths x2.toNatClampNeg (lengths x1.toNatClampNeg)) := ⟨hm.keep (hp_this.1) (by omega), hm.keep (hp_this.2.1) (by omega), hm.1⟩
      have hF := hF.tr (hm.fr (by omega) (by omega))
      refine lv_iload_n hx hb dX8_putMirrored_62 rfl (lv_at hl 2 rfl) ?_
      cases hf
      exact hret hM dX8_putMirrored_63 rfl ⟨rfl, hp_this, hF⟩
    · rw [if_pos hcd] at hf
      refine lv_iconst (v := (-1)) hx hb dX8_putMirrored_14 (by decide) ?_
      cases hf
      exact hret hM dX8_putMirrored_15 rfl ⟨rfl, hp_this, hF⟩
def f_X8_putWayBack_L26 (x1 : Int32) (x2 : Int32) (x3 : Int32) : Nat → (Int32) → (Nat → Int32) → Option (Nat → Int32)
  | 0, _, _ => none
  | n + 1, x4, moves => if (x3 - x4) ≤ x4 then some moves else (f_X8_moveIn moves x1 x4).bind fun q47 => (f_X8_moveIn moves x1 ((x3 - 1) - x4)).bind fun q56 => (f_X12_opposite q56).bind fun q67 => (f_X8_setMove moves x2 x4 q67).bind fun q70 => (f_X12_opposite q47).bind fun q79 => (f_X8_setMove q70 x2 ((x3 - 1) - x4) q79).bind fun q82 => f_X8_putWayBack_L26 x1 x2 x3 n (x4 + 1) q82
def f_X8_putWayBack (K : Nat) (moves : Nat → Int32) (lengths : Nat → Int32) (x1 : Int32) (x2 : Int32) : Option (Int32 × (Nat → Int32) × (Nat → Int32)) := (f_X12_isPlan x1).bind fun q1 => if q1 = 0 then some ((-1), moves, lengths) else (f_X12_isPlan x2).bind fun q8 => if q8 = 0 then some ((-1), moves, lengths) else mm_g (mm_ck x1 6) ((f_X8_putWayBack_L26 x1 x2 (lengths x1.toNatClampNeg) K 0 moves).bind fun q26 => mm_g (mm_ck x2 6) (some ((lengths x1.toNatClampNeg), q26, (upd lengths x2.toNatClampNeg (lengths x1.toNatClampNeg)))))
set_option maxHeartbeats 4000000 in
set_option maxRecDepth 100000 in
theorem c_X8_putWayBack (l : Launch) {G : mm_G} {K : Nat} {w : va_W} {sz : Nat} {b : Nat} {moves : Nat → Int32} {lengths : Nat → Int32} {x1 : Int32} {x2 : Int32} {X : Int32 × (Nat → Int32) × (Nat → Int32)} (hf : f_X8_putWayBack K moves lengths x1 x2 = some X) (hp_this : At8 G w b moves lengths) : Met l yX8_putWayBack (Cond.code yX8_putWayBack cX8_putWayBack 8 (some .int) :: gAll) ({ frames := 1, cells := 0, slots := 0, locals := 23 }) (va_Pc [.ref b, .int x1, .int x2] (mm_Pre G w sz)) (mm_Qi G w sz (fun r w' => r = X.1 ∧ At8 G w' b X.2.1 X.2.2 ∧ mm_fr w w' b (b + 3))) 0 0 (va_A w sz) := by
  refine mm_headI [.ref b, .int x1, .int x2] (by decide +kernel) rfl (Nat.le_of_ble_eq_true rfl) ?_
  intro p e s m args below meth c A Q hsz hC hM hret ls hl
  have hx := hC.1.1
  have hb := hC.1.2.1
  have hl : lv_has ls 8 [(0, .ref b), (1, .int x1), (2, .int x2)] := hl
  have hF : mm_fr w w b (b + 3) := mm_fr.rf
  rw [f_X8_putWayBack] at hf
  refine lv_iload_n hx hb dX8_putWayBack_0 rfl (lv_at hl 1 rfl) ?_
  obtain ⟨q1, hq1, hf⟩ := mm_bd hf
  refine mm_SNi (rest := []) hC hM (c_X12_isPlan l hq1) q4_211 q1_1 ykX12_isPlan q4_209 q4_210 ⟨rfl, rfl⟩ ⟨Nat.le_of_ble_eq_true rfl, Nat.le_of_ble_eq_true rfl⟩ rfl hl.1 rfl (Nat.le_of_ble_eq_true rfl) dX8_putWayBack_1 ⟨Nat.le_of_ble_eq_true rfl, Nat.le_of_ble_eq_true rfl⟩ (fun r w1 H locs hM hw => ?_)
  obtain ⟨hr, hw⟩ := hw
  rw [hr]
  rw [hw] at hM
  refine lv_if_eq (tgt := 14) hx hb dX8_putWayBack_4 (by decide) (fun hcd => ?_) (fun hcd => ?_)
  · rw [if_pos hcd] at hf
    refine lv_iconst (v := (-1)) hx hb dX8_putWayBack_14 (by decide) ?_
    cases hf
    exact hret hM dX8_putWayBack_15 rfl ⟨rfl, hp_this, hF⟩
  · rw [if_neg hcd] at hf
    refine lv_iload_n hx hb dX8_putWayBack_7 rfl (lv_at hl 2 rfl) ?_
    obtain ⟨q8, hq8, hf⟩ := mm_bd hf
    refine mm_SNi (rest := []) hC hM (c_X12_isPlan l hq8) q4_211 q1_1 ykX12_isPlan q4_209 q4_210 ⟨rfl, rfl⟩ ⟨Nat.le_of_ble_eq_true rfl, Nat.le_of_ble_eq_true rfl⟩ rfl hl.1 rfl (Nat.le_of_ble_eq_true rfl) dX8_putWayBack_8 ⟨Nat.le_of_ble_eq_true rfl, Nat.le_of_ble_eq_true rfl⟩ (fun r w8 H locs hM hw => ?_)
    obtain ⟨hr, hw⟩ := hw
    rw [hr]
    rw [hw] at hM
    refine lv_if_ne (tgt := 16) hx hb dX8_putWayBack_11 (by decide) (fun hcd => ?_) (fun hcd => ?_)
    · rw [if_neg hcd] at hf
      refine lv_aload_n hx hb dX8_putWayBack_16 rfl (lv_at hl 0 rfl) ?_
      refine mm_get hC hM (k := 1) hp_this.1 rfl inAX8 (by decide) q1_115 rfl dX8_putWayBack_17 ?_
      refine lv_iload_n hx hb dX8_putWayBack_20 rfl (lv_at hl 1 rfl) ?_
      obtain ⟨hg21, hf⟩ := mm_gd hf
      refine mm_iald hC hM (hp_this.2.2) hg21 dX8_putWayBack_21 ?_
      refine lv_istore_n (lv' := [(3, .int (lengths x1.toNatClampNeg)), (0, .ref b), (1, .int x1), (2, .int x2)]) hx hb dX8_putWayBack_22 rfl hl (by decide) rfl (fun ls hl => ?_)
      refine lv_iconst (v := 0) hx hb dX8_putWayBack_23 (by decide) ?_
      refine lv_istore (lv' := [(4, .int 0), (3, .int (lengths x1.toNatClampNeg)), (0, .ref b), (1, .int x1), (2, .int x2)]) hx hb dX8_putWayBack_24 hl (by decide) rfl (fun ls hl => ?_)
      have L26 : ∀ (n : Nat) (L26_x4 : Int32) (L26_moves : Nat → Int32) (X : Nat → Int32), f_X8_putWayBack_L26 x1 x2 (lengths x1.toNatClampNeg) n L26_x4 L26_moves = some X → ∀ (L26_w : va_W) (H : Heap) (locs : List Loc), mm_S G A s.heap L26_w H locs → At8 G L26_w b L26_moves lengths → mm_fr w L26_w b (b + 3) → ∀ (ls : Array Slot), lv_has ls 8 [(0, .ref b), (1, .int x1), (2, .int x2), (3, .int (lengths x1.toNatClampNeg)), (4, .int L26_x4)] → (∀ (w9 : va_W) (H : Heap) (locs : List Loc), mm_S G A s.heap w9 H locs → At8 G w9 b X lengths → mm_fr w w9 b (b + 3) → ∀ (ls : Array Slot), lv_has ls 8 [(0, .ref b), (2, .int x2), (3, .int (lengths x1.toNatClampNeg))] → W p l e ({ frames := 1, cells := 0, slots := 0, locals := 23 } : Room) s m args below meth c H locs 0 0 Q (F0 m 91 ls [])) → W p l e ({ frames := 1, cells := 0, slots := 0, locals := 23 } : Room) s m args below meth c H locs 0 0 Q (F0 m 26 ls []) := by
        intro n
        induction n with
        | zero => intro L26_x4 L26_moves X hf; cases hf
        | succ n ih =>
          intro L26_x4 L26_moves X hf L26_w H locs hM hp_this hF ls hl hk
          rw [f_X8_putWayBack_L26] at hf
          refine lv_iload hx hb dX8_putWayBack_26 (lv_at hl 4 rfl) ?_
          refine lv_iload_n hx hb dX8_putWayBack_28 rfl (lv_at hl 3 rfl) ?_
          refine lv_iload hx hb dX8_putWayBack_29 (lv_at hl 4 rfl) ?_
          refine lv_isub hx hb dX8_putWayBack_31 ?_
          refine lv_icmp_ge (tgt := 91) hx hb dX8_putWayBack_32 (by decide) (fun hcd => ?_) (fun hcd => ?_)
          · rw [if_pos hcd] at hf
            cases hf
            exact hk _ _ _ hM hp_this hF _ (lv_sub hl [0, 2, 3] rfl)
          · rw [if_neg hcd] at hf
            refine lv_iload_n hx hb dX8_putWayBack_35 rfl (lv_at hl 3 rfl) ?_
            refine lv_iconst (v := 1) hx hb dX8_putWayBack_36 (by decide) ?_
            refine lv_isub hx hb dX8_putWayBack_37 ?_
            refine lv_iload hx hb dX8_putWayBack_38 (lv_at hl 4 rfl) ?_
            refine lv_isub hx hb dX8_putWayBack_40 ?_
            refine lv_istore (lv' := [(5, .int (((lengths x1.toNatClampNeg) - 1) - L26_x4)), (0, .ref b), (1, .int x1), (2, .int x2), (3, .int (lengths x1.toNatClampNeg)), (4, .int L26_x4)]) hx hb dX8_putWayBack_41 hl (by decide) rfl (fun ls hl => ?_)
            refine lv_aload_n hx hb dX8_putWayBack_43 rfl (lv_at hl 1 rfl) ?_
            refine lv_iload_n hx hb dX8_putWayBack_44 rfl (lv_at hl 2 rfl) ?_
            refine lv_iload hx hb dX8_putWayBack_45 (lv_at hl 5 rfl) ?_
            obtain ⟨q47, hq47, hf⟩ := mm_bd hf
            refine mm_Vi (rest := []) hC hM (c_X8_moveIn l hq47 hp_this) q2_225 q1_5 ykX8_moveIn q2_222 q2_223 q2_224 hp_this.1 rfl ⟨rfl, rfl⟩ ⟨Nat.le_of_ble_eq_true rfl, Nat.le_of_ble_eq_true rfl⟩ rfl hl.1 rfl (Nat.le_of_ble_eq_true rfl) dX8_putWayBack_47 ⟨Nat.le_of_ble_eq_true rfl, Nat.le_of_ble_eq_true rfl⟩ (fun r w47 H locs hM hw => ?_)
            obtain ⟨hr, hw⟩ := hw
            rw [hr]
            rw [hw] at hM
            refine lv_istore (lv' := [(6, .int q47), (5, .int (((lengths x1.toNatClampNeg) - 1) - L26_x4)), (0, .ref b), (1, .int x1), (2, .int x2), (3, .int (lengths x1.toNatClampNeg)), (4, .int L26_x4)]) hx hb dX8_putWayBack_50 hl (by decide) rfl (fun ls hl => ?_)
            refine lv_aload_n hx hb dX8_putWayBack_52 rfl (lv_at hl 2 rfl) ?_
            refine lv_iload_n hx hb dX8_putWayBack_53 rfl (lv_at hl 3 rfl) ?_
            refine lv_iload hx hb dX8_putWayBack_54 (lv_at hl 1 rfl) ?_
            obtain ⟨q56, hq56, hf⟩ := mm_bd hf
            refine mm_Vi (rest := []) hC hM (c_X8_moveIn l hq56 hp_this) q2_225 q1_5 ykX8_moveIn q2_222 q2_223 q2_224 hp_this.1 rfl ⟨rfl, rfl⟩ ⟨Nat.le_of_ble_eq_true rfl, Nat.le_of_ble_eq_true rfl⟩ rfl hl.1 rfl (Nat.le_of_ble_eq_true rfl) dX8_putWayBack_56 ⟨Nat.le_of_ble_eq_true rfl, Nat.le_of_ble_eq_true rfl⟩ (fun r w56 H locs hM hw => ?_)
            obtain ⟨hr, hw⟩ := hw
            rw [hr]
            rw [hw] at hM
            refine lv_istore (lv' := [(7, .int q56), (6, .int q47), (5, .int (((lengths x1.toNatClampNeg) - 1) - L26_x4)), (0, .ref b), (1, .int x1), (2, .int x2), (3, .int (lengths x1.toNatClampNeg)), (4, .int L26_x4)]) hx hb dX8_putWayBack_59 hl (by decide) rfl (fun ls hl => ?_)
            refine lv_aload_n hx hb dX8_putWayBack_61 rfl (lv_at hl 3 rfl) ?_
            refine lv_iload_n hx hb dX8_putWayBack_62 rfl (lv_at hl 5 rfl) ?_
            refine lv_iload hx hb dX8_putWayBack_63 (lv_at hl 7 rfl) ?_
            refine lv_iload hx hb dX8_putWayBack_65 (lv_at hl 0 rfl) ?_
            obtain ⟨q67, hq67, hf⟩ := mm_bd hf
            refine mm_SNi (rest := [.int L26_x4, .int x2, .ref b]) hC hM (c_X12_opposite l hq67) q2_228 q1_1 ykX12_opposite q2_226 q2_227 ⟨rfl, rfl⟩ ⟨Nat.le_of_ble_eq_true rfl, Nat.le_of_ble_eq_true rfl⟩ rfl hl.1 rfl (Nat.le_of_ble_eq_true rfl) dX8_putWayBack_67 ⟨Nat.le_of_ble_eq_true rfl, Nat.le_of_ble_eq_true rfl⟩ (fun r w67 H locs hM hw => ?_)
            obtain ⟨hr, hw⟩ := hw
            rw [hr]
            rw [hw] at hM
            obtain ⟨q70, hq70, hf⟩ := mm_bd hf
            refine mm_Vv (rest := []) hC hM (c_X8_setMove l hq70 hp_this) q4_220 q1_5 ykX8_setMove q4_217 q4_219 qp_e5526b43 hp_this.1 rfl ⟨rfl, rfl⟩ ⟨Nat.le_of_ble_eq_true rfl, Nat.le_of_ble_eq_true rfl⟩ rfl hl.1 rfl (Nat.le_of_ble_eq_true rfl) dX8_putWayBack_70 ⟨Nat.le_of_ble_eq_true rfl, Nat.le_of_ble_eq_true rfl⟩ (fun w70 H locs hM hw => ?_)
            obtain ⟨hn_this, hfr⟩ := hw
            have hp_this := hn_this
            have hF := hF.tr (hfr.wide (by omega) (by omega))
            refine lv_aload_n hx hb dX8_putWayBack_73 rfl (lv_at hl 3 rfl) ?_
            refine lv_iload_n hx hb dX8_putWayBack_74 rfl (lv_at hl 5 rfl) ?_
            refine lv_iload hx hb dX8_putWayBack_75 (lv_at hl 2 rfl) ?_
            refine lv_iload hx hb dX8_putWayBack_77 (lv_at hl 1 rfl) ?_
            obtain ⟨q79, hq79, hf⟩ := mm_bd hf
            refine mm_SNi (rest := [.int (((lengths x1.toNatClampNeg) - 1) - L26_x4), .int x2, .ref b]) hC hM (c_X12_opposite l hq79) q2_228 q1_1 ykX12_opposite q2_226 q2_227 ⟨rfl, rfl⟩ ⟨Nat.le_of_ble_eq_true rfl, Nat.le_of_ble_eq_true rfl⟩ rfl hl.1 rfl (Nat.le_of_ble_eq_true rfl) dX8_putWayBack_79 ⟨Nat.le_of_ble_eq_true rfl, Nat.le_of_ble_eq_true rfl⟩ (fun r w79 H locs hM hw => ?_)
            obtain ⟨hr, hw⟩ := hw
            rw [hr]
            rw [hw] at hM
            obtain ⟨q82, hq82, hf⟩ := mm_bd hf
            refine mm_Vv (rest := []) hC hM (c_X8_setMove l hq82 hp_this) q4_220 q1_5 ykX8_setMove q4_217 q4_219 qp_e5526b43 hp_this.1 rfl ⟨rfl, rfl⟩ ⟨Nat.le_of_ble_eq_true rfl, Nat.le_of_ble_eq_true rfl⟩ rfl hl.1 rfl (Nat.le_of_ble_eq_true rfl) dX8_putWayBack_82 ⟨Nat.le_of_ble_eq_true rfl, Nat.le_of_ble_eq_true rfl⟩ (fun w82 H locs hM hw => ?_)
            obtain ⟨hn_this, hfr⟩ := hw
            have hp_this := hn_this
            have hF := hF.tr (hfr.wide (by omega) (by omega))
            refine lv_iinc (v := (L26_x4 + 1)) (lv' := [(4, .int (L26_x4 + 1)), (7, .int q56), (6, .int q47), (5, .int (((lengths x1.toNatClampNeg) - 1) - L26_x4)), (0, .ref b), (1, .int x1), (2, .int x2), (3, .int (lengths x1.toNatClampNeg))]) hx hb dX8_putWayBack_85 hl (k := 7) rfl rfl (by decide) rfl (fun ls hl => ?_)
            refine lv_goto (tgt := 26) hx hb dX8_putWayBack_88 (by decide) ?_
            exact ih _ _ _ hf _ _ _ hM hp_this hF _ (lv_sub hl [4, 5, 6, 7, 0] rfl) hk
      obtain ⟨q26, hq26, hf⟩ := mm_bd hf
      refine L26 K _ _ _ hq26 _ _ _ hM hp_this hF _ (lv_sub hl [2, 3, 4, 1, 0] rfl) (fun w26 H locs hM hp_this hF ls hl => ?_)
      refine lv_aload_n hx hb dX8_putWayBack_91 rfl (lv_at hl 0 rfl) ?_
      refine mm_get hC hM (k := 1) hp_this.1 rfl inAX8 (by decide) q1_115 rfl dX8_putWayBack_92 ?_
      refine lv_iload_n hx hb dX8_putWayBack_95 rfl (lv_at hl 1 rfl) ?_
      refine lv_iload_n hx hb dX8_putWayBack_96 rfl (lv_at hl 2 rfl) ?_
      obtain ⟨hg97, hf⟩ := mm_gd hf
      refine mm_iast hC hM (hp_this.2.2) hg97 dX8_putWayBack_97 (fun w97 H locs hM hm => ?_)
      have hp_this : At8 G w97 b q26 (upd lengths x2.toNatClampNeg (lengths x1.toNatClampNeg)) := ⟨hm.keep (hp_this.1) (by omega), hm.keep (hp_this.2.1) (by omega), hm.1⟩
      have hF := hF.tr (hm.fr (by omega) (by omega))
      refine lv_iload_n hx hb dX8_putWayBack_98 rfl (lv_at hl 2 rfl) ?_
      cases hf
      exact hret hM dX8_putWayBack_99 rfl ⟨rfl, hp_this, hF⟩
    · rw [if_pos hcd] at hf
      refine lv_iconst (v := (-1)) hx hb dX8_putWayBack_14 (by decide) ?_
      cases hf
      exact hret hM dX8_putWayBack_15 rfl ⟨rfl, hp_this, hF⟩
def f_X8_stackMoves_this_moves_L6 (lengths : Nat → Int32) (x1 : Int32) (x3 : Int32) : Nat → (Int32) → (Int32) → (Nat → Int32) → Option (Int32 × (Nat → Int32))
  | 0, _, _, _ => none
  | n + 1, x4, x5, moves => mm_g (mm_ck x1 6) (if (lengths x1.toNatClampNeg) ≤ x5 then some (x4, moves) else (f_X8_moveIn moves x1 x5).bind fun q21 => if x4 ≤ 0 then mm_g (mm_ck (x3 + x4) 120) (f_X8_stackMoves_this_moves_L6 lengths x1 x3 n (x4 + 1) (x5 + 1) (upd moves ((x3 + x4).toNatClampNeg) q21)) else mm_g (mm_ck ((x3 + x4) - 1) 120) ((f_X12_opposite q21).bind fun q41 => if (moves ((x3 + x4) - 1).toNatClampNeg) = q41 then f_X8_stackMoves_this_moves_L6 lengths x1 x3 n (x4 + (-1)) (x5 + 1) moves else mm_g (mm_ck (x3 + x4) 120) (f_X8_stackMoves_this_moves_L6 lengths x1 x3 n (x4 + 1) (x5 + 1) (upd moves ((x3 + x4).toNatClampNeg) q21))))
def f_X8_stackMoves_this_moves (K : Nat) (moves : Nat → Int32) (lengths : Nat → Int32) (x1 : Int32) (x3 : Int32) : Option (Int32 × (Nat → Int32)) := (f_X8_stackMoves_this_moves_L6 lengths x1 x3 K 0 0 moves).bind fun q6 => some (q6.1, q6.2)
set_option maxHeartbeats 4000000 in
set_option maxRecDepth 100000 in
theorem c_X8_stackMoves_this_moves (l : Launch) {G : mm_G} {K : Nat} {w : va_W} {sz : Nat} {b : Nat} {moves : Nat → Int32} {lengths : Nat → Int32} {x1 : Int32} {x3 : Int32} {X : Int32 × (Nat → Int32)} (hf : f_X8_stackMoves_this_moves K moves lengths x1 x3 = some X) (hp_this : At8 G w b moves lengths) : Met l yX8_stackMoves (Cond.code yX8_stackMoves cX8_stackMoves 7 (some .int) :: gAll) ({ frames := 1, cells := 0, slots := 0, locals := 22 }) (va_Pc [.ref b, .int x1, .ref (b + 1), .int x3] (mm_Pre G w sz)) (mm_Qi G w sz (fun r w' => r = X.1 ∧ At8 G w' b X.2 lengths ∧ mm_fr w w' b (b + 3))) 0 0 (va_A w sz) := by
  refine mm_headI [.ref b, .int x1, .ref (b + 1), .int x3] (by decide +kernel) rfl (Nat.le_of_ble_eq_true rfl) ?_
  intro p e s m args below meth c A Q hsz hC hM hret ls hl
  have hx := hC.1.1
  have hb := hC.1.2.1
  have hl : lv_has ls 7 [(0, .ref b), (1, .int x1), (2, .ref (b + 1)), (3, .int x3)] := hl
  have hF : mm_fr w w b (b + 3) := mm_fr.rf
  rw [f_X8_stackMoves_this_moves] at hf
  refine lv_iconst (v := 0) hx hb dX8_stackMoves_0 (by decide) ?_
  refine lv_istore (lv' := [(4, .int 0), (0, .ref b), (1, .int x1), (2, .ref (b + 1)), (3, .int x3)]) hx hb dX8_stackMoves_1 hl (by decide) rfl (fun ls hl => ?_)
  refine lv_iconst (v := 0) hx hb dX8_stackMoves_3 (by decide) ?_
  refine lv_istore (lv' := [(5, .int 0), (4, .int 0), (0, .ref b), (1, .int x1), (2, .ref (b + 1)), (3, .int x3)]) hx hb dX8_stackMoves_4 hl (by decide) rfl (fun ls hl => ?_)
  have L6 : ∀ (n : Nat) (L6_x4 : Int32) (L6_x5 : Int32) (L6_moves : Nat → Int32) (X : Int32 × (Nat → Int32)), f_X8_stackMoves_this_moves_L6 lengths x1 x3 n L6_x4 L6_x5 L6_moves = some X → ∀ (L6_w : va_W) (H : Heap) (locs : List Loc), mm_S G A s.heap L6_w H locs → At8 G L6_w b L6_moves lengths → mm_fr w L6_w b (b + 3) → ∀ (ls : Array Slot), lv_has ls 7 [(0, .ref b), (1, .int x1), (2, .ref (b + 1)), (3, .int x3), (4, .int L6_x4), (5, .int L6_x5)] → (∀ (w9 : va_W) (H : Heap) (locs : List Loc), mm_S G A s.heap w9 H locs → At8 G w9 b X.2 lengths → mm_fr w w9 b (b + 3) → ∀ (ls : Array Slot), lv_has ls 7 [(4, .int X.1)] → W p l e ({ frames := 1, cells := 0, slots := 0, locals := 22 } : Room) s m args below meth c H locs 0 0 Q (F0 m 70 ls [])) → W p l e ({ frames := 1, cells := 0, slots := 0, locals := 22 } : Room) s m args below meth c H locs 0 0 Q (F0 m 6 ls []) := by
    intro n
    induction n with
    | zero => intro L6_x4 L6_x5 L6_moves X hf; cases hf
    | succ n ih =>
      intro L6_x4 L6_x5 L6_moves X hf L6_w H locs hM hp_this hF ls hl hk
      rw [f_X8_stackMoves_this_moves_L6] at hf
      refine lv_iload hx hb dX8_stackMoves_6 (lv_at hl 5 rfl) ?_
      refine lv_aload_n hx hb dX8_stackMoves_8 rfl (lv_at hl 0 rfl) ?_
      refine mm_get hC hM (k := 1) hp_this.1 rfl inAX8 (by decide) q1_115 rfl dX8_stackMoves_9 ?_
      refine lv_iload_n hx hb dX8_stackMoves_12 rfl (lv_at hl 1 rfl) ?_
      obtain ⟨hg13, hf⟩ := mm_gd hf
      refine mm_iald hC hM (hp_this.2.2) hg13 dX8_stackMoves_13 ?_
      refine lv_icmp_ge (tgt := 70) hx hb dX8_stackMoves_14 (by decide) (fun hcd => ?_) (fun hcd => ?_)
      · rw [if_pos hcd] at hf
        cases hf
        exact hk _ _ _ hM hp_this hF _ (lv_sub hl [4] rfl)
      · rw [if_neg hcd] at hf
        refine lv_aload_n hx hb dX8_stackMoves_17 rfl (lv_at hl 0 rfl) ?_
        refine lv_iload_n hx hb dX8_stackMoves_18 rfl (lv_at hl 1 rfl) ?_
        refine lv_iload hx hb dX8_stackMoves_19 (lv_at hl 5 rfl) ?_
        obtain ⟨q21, hq21, hf⟩ := mm_bd hf
        refine mm_Vi (rest := []) hC hM (c_X8_moveIn l hq21 hp_this) q2_225 q1_5 ykX8_moveIn q2_222 q2_223 q2_224 hp_this.1 rfl ⟨rfl, rfl⟩ ⟨Nat.le_of_ble_eq_true rfl, Nat.le_of_ble_eq_true rfl⟩ rfl hl.1 rfl (Nat.le_of_ble_eq_true rfl) dX8_stackMoves_21 ⟨Nat.le_of_ble_eq_true rfl, Nat.le_of_ble_eq_true rfl⟩ (fun r w21 H locs hM hw => ?_)
        obtain ⟨hr, hw⟩ := hw
        rw [hr]
        rw [hw] at hM
        refine lv_istore (lv' := [(6, .int q21), (0, .ref b), (1, .int x1), (2, .ref (b + 1)), (3, .int x3), (4, .int L6_x4), (5, .int L6_x5)]) hx hb dX8_stackMoves_24 hl (by decide) rfl (fun ls hl => ?_)
        refine lv_iload hx hb dX8_stackMoves_26 (lv_at hl 5 rfl) ?_
        refine lv_if_le (tgt := 53) hx hb dX8_stackMoves_28 (by decide) (fun hcd => ?_) (fun hcd => ?_)
        · rw [if_pos hcd] at hf
          refine lv_aload_n hx hb dX8_stackMoves_53 rfl (lv_at hl 3 rfl) ?_
          refine lv_iload_n hx hb dX8_stackMoves_54 rfl (lv_at hl 4 rfl) ?_
          refine lv_iload hx hb dX8_stackMoves_55 (lv_at hl 5 rfl) ?_
          refine lv_iadd hx hb dX8_stackMoves_57 ?_
          refine lv_iload hx hb dX8_stackMoves_58 (lv_at hl 0 rfl) ?_
          obtain ⟨hg60, hf⟩ := mm_gd hf
          refine mm_iast hC hM (hp_this.2.1) hg60 dX8_stackMoves_60 (fun w60 H locs hM hm => ?_)
          have hp_this : At8 G w60 b (upd L6_moves ((x3 + L6_x4).toNatClampNeg) q21) lengths := ⟨hm.keep (hp_this.1) (by omega), hm.1, hm.keep (hp_this.2.2) (by omega)⟩
          have hF := hF.tr (hm.fr (by omega) (by omega))
          refine lv_iinc (v := (L6_x4 + 1)) (lv' := [(4, .int (L6_x4 + 1)), (6, .int q21), (0, .ref b), (1, .int x1), (2, .ref (b + 1)), (3, .int x3), (5, .int L6_x5)]) hx hb dX8_stackMoves_61 hl (k := 5) rfl rfl (by decide) rfl (fun ls hl => ?_)
          refine lv_iinc (v := (L6_x5 + 1)) (lv' := [(5, .int (L6_x5 + 1)), (4, .int (L6_x4 + 1)), (6, .int q21), (0, .ref b), (1, .int x1), (2, .ref (b + 1)), (3, .int x3)]) hx hb dX8_stackMoves_64 hl (k := 6) rfl rfl (by decide) rfl (fun ls hl => ?_)
          refine lv_goto (tgt := 6) hx hb dX8_stackMoves_67 (by decide) ?_
          exact ih _ _ _ _ hf _ _ _ hM hp_this hF _ (lv_sub hl [3, 4, 5, 6, 1, 0] rfl) hk
        · rw [if_neg hcd] at hf
          refine lv_aload_n hx hb dX8_stackMoves_31 rfl (lv_at hl 3 rfl) ?_
          refine lv_iload_n hx hb dX8_stackMoves_32 rfl (lv_at hl 4 rfl) ?_
          refine lv_iload hx hb dX8_stackMoves_33 (lv_at hl 5 rfl) ?_
          refine lv_iadd hx hb dX8_stackMoves_35 ?_
          refine lv_iconst (v := 1) hx hb dX8_stackMoves_36 (by decide) ?_
          refine lv_isub hx hb dX8_stackMoves_37 ?_
          obtain ⟨hg38, hf⟩ := mm_gd hf
          refine mm_iald hC hM (hp_this.2.1) hg38 dX8_stackMoves_38 ?_
          refine lv_iload hx hb dX8_stackMoves_39 (lv_at hl 0 rfl) ?_
          obtain ⟨q41, hq41, hf⟩ := mm_bd hf
          refine mm_SNi (rest := [.int (L6_moves ((x3 + L6_x4) - 1).toNatClampNeg)]) hC hM (c_X12_opposite l hq41) q2_228 q1_1 ykX12_opposite q2_226 q2_227 ⟨rfl, rfl⟩ ⟨Nat.le_of_ble_eq_true rfl, Nat.le_of_ble_eq_true rfl⟩ rfl hl.1 rfl (Nat.le_of_ble_eq_true rfl) dX8_stackMoves_41 ⟨Nat.le_of_ble_eq_true rfl, Nat.le_of_ble_eq_true rfl⟩ (fun r w41 H locs hM hw => ?_)
          obtain ⟨hr, hw⟩ := hw
          rw [hr]
          rw [hw] at hM
          refine lv_icmp_ne (tgt := 53) hx hb dX8_stackMoves_44 (by decide) (fun hcd => ?_) (fun hcd => ?_)
          · rw [if_neg hcd] at hf
            refine lv_aload_n hx hb dX8_stackMoves_53 rfl (lv_at hl 3 rfl) ?_
            refine lv_iload_n hx hb dX8_stackMoves_54 rfl (lv_at hl 4 rfl) ?_
            refine lv_iload hx hb dX8_stackMoves_55 (lv_at hl 5 rfl) ?_
            refine lv_iadd hx hb dX8_stackMoves_57 ?_
            refine lv_iload hx hb dX8_stackMoves_58 (lv_at hl 0 rfl) ?_
            obtain ⟨hg60, hf⟩ := mm_gd hf
            refine mm_iast hC hM (hp_this.2.1) hg60 dX8_stackMoves_60 (fun w60 H locs hM hm => ?_)
            have hp_this : At8 G w60 b (upd L6_moves ((x3 + L6_x4).toNatClampNeg) q21) lengths := ⟨hm.keep (hp_this.1) (by omega), hm.1, hm.keep (hp_this.2.2) (by omega)⟩
            have hF := hF.tr (hm.fr (by omega) (by omega))
            refine lv_iinc (v := (L6_x4 + 1)) (lv' := [(4, .int (L6_x4 + 1)), (6, .int q21), (0, .ref b), (1, .int x1), (2, .ref (b + 1)), (3, .int x3), (5, .int L6_x5)]) hx hb dX8_stackMoves_61 hl (k := 5) rfl rfl (by decide) rfl (fun ls hl => ?_)
            refine lv_iinc (v := (L6_x5 + 1)) (lv' := [(5, .int (L6_x5 + 1)), (4, .int (L6_x4 + 1)), (6, .int q21), (0, .ref b), (1, .int x1), (2, .ref (b + 1)), (3, .int x3)]) hx hb dX8_stackMoves_64 hl (k := 6) rfl rfl (by decide) rfl (fun ls hl => ?_)
            refine lv_goto (tgt := 6) hx hb dX8_stackMoves_67 (by decide) ?_
            exact ih _ _ _ _ hf _ _ _ hM hp_this hF _ (lv_sub hl [3, 4, 5, 6, 1, 0] rfl) hk
          · rw [if_pos hcd] at hf
            refine lv_iinc (v := (L6_x4 + (-1))) (lv' := [(4, .int (L6_x4 + (-1))), (6, .int q21), (0, .ref b), (1, .int x1), (2, .ref (b + 1)), (3, .int x3), (5, .int L6_x5)]) hx hb dX8_stackMoves_47 hl (k := 5) rfl rfl (by decide) rfl (fun ls hl => ?_)
            refine lv_goto (tgt := 64) hx hb dX8_stackMoves_50 (by decide) ?_
            refine lv_iinc (v := (L6_x5 + 1)) (lv' := [(5, .int (L6_x5 + 1)), (4, .int (L6_x4 + (-1))), (6, .int q21), (0, .ref b), (1, .int x1), (2, .ref (b + 1)), (3, .int x3)]) hx hb dX8_stackMoves_64 hl (k := 6) rfl rfl (by decide) rfl (fun ls hl => ?_)
            refine lv_goto (tgt := 6) hx hb dX8_stackMoves_67 (by decide) ?_
            exact ih _ _ _ _ hf _ _ _ hM hp_this hF _ (lv_sub hl [3, 4, 5, 6, 1, 0] rfl) hk
  obtain ⟨q6, hq6, hf⟩ := mm_bd hf
  refine L6 K _ _ _ _ hq6 _ _ _ hM hp_this hF _ (lv_sub hl [2, 3, 4, 5, 1, 0] rfl) (fun w6 H locs hM hp_this hF ls hl => ?_)
  refine lv_iload hx hb dX8_stackMoves_70 (lv_at hl 0 rfl) ?_
  cases hf
  exact hret hM dX8_stackMoves_72 rfl ⟨rfl, hp_this, hF⟩
def f_X8_shorten (K : Nat) (moves : Nat → Int32) (lengths : Nat → Int32) (x1 : Int32) : Option (Int32 × (Nat → Int32) × (Nat → Int32)) := (f_X12_isPlan x1).bind fun q1 => if q1 = 0 then some ((-1), moves, lengths) else (f_X8_stackMoves_this_moves K moves lengths x1 (x1 * 20)).bind fun q24 => mm_g (mm_ck x1 6) (mm_g (mm_ck x1 6) (some (((upd lengths x1.toNatClampNeg q24.1) x1.toNatClampNeg), q24.2, (upd lengths x1.toNatClampNeg q24.1))))
set_option maxHeartbeats 4000000 in
set_option maxRecDepth 100000 in
theorem c_X8_shorten (l : Launch) {G : mm_G} {K : Nat} {w : va_W} {sz : Nat} {b : Nat} {moves : Nat → Int32} {lengths : Nat → Int32} {x1 : Int32} {X : Int32 × (Nat → Int32) × (Nat → Int32)} (hf : f_X8_shorten K moves lengths x1 = some X) (hp_this : At8 G w b moves lengths) : Met l yX8_shorten (Cond.code yX8_shorten cX8_shorten 2 (some .int) :: gAll) ({ frames := 2, cells := 0, slots := 0, locals := 48 }) (va_Pc [.ref b, .int x1] (mm_Pre G w sz)) (mm_Qi G w sz (fun r w' => r = X.1 ∧ At8 G w' b X.2.1 X.2.2 ∧ mm_fr w w' b (b + 3))) 0 0 (va_A w sz) := by
  refine mm_headI [.ref b, .int x1] (by decide +kernel) rfl (Nat.le_of_ble_eq_true rfl) ?_
  intro p e s m args below meth c A Q hsz hC hM hret ls hl
  have hx := hC.1.1
  have hb := hC.1.2.1
  have hl : lv_has ls 2 [(0, .ref b), (1, .int x1)] := hl
  have hF : mm_fr w w b (b + 3) := mm_fr.rf
  rw [f_X8_shorten] at hf
  refine lv_iload_n hx hb dX8_shorten_0 rfl (lv_at hl 1 rfl) ?_
  obtain ⟨q1, hq1, hf⟩ := mm_bd hf
  refine mm_SNi (rest := []) hC hM (c_X12_isPlan l hq1) q4_211 q1_1 ykX12_isPlan q4_209 q4_210 ⟨rfl, rfl⟩ ⟨Nat.le_of_ble_eq_true rfl, Nat.le_of_ble_eq_true rfl⟩ rfl hl.1 rfl (Nat.le_of_ble_eq_true rfl) dX8_shorten_1 ⟨Nat.le_of_ble_eq_true rfl, Nat.le_of_ble_eq_true rfl⟩ (fun r w1 H locs hM hw => ?_)
  obtain ⟨hr, hw⟩ := hw
  rw [hr]
  rw [hw] at hM
  refine lv_if_ne (tgt := 9) hx hb dX8_shorten_4 (by decide) (fun hcd => ?_) (fun hcd => ?_)
  · rw [if_neg hcd] at hf
    refine lv_aload_n hx hb dX8_shorten_9 rfl (lv_at hl 0 rfl) ?_
    refine mm_get hC hM (k := 1) hp_this.1 rfl inAX8 (by decide) q1_115 rfl dX8_shorten_10 ?_
    refine lv_iload_n hx hb dX8_shorten_13 rfl (lv_at hl 1 rfl) ?_
    refine lv_aload_n hx hb dX8_shorten_14 rfl (lv_at hl 0 rfl) ?_
    refine lv_iload_n hx hb dX8_shorten_15 rfl (lv_at hl 1 rfl) ?_
    refine lv_aload_n hx hb dX8_shorten_16 rfl (lv_at hl 0 rfl) ?_
    refine mm_get hC hM (k := 0) hp_this.1 rfl inAX8 (by decide) q1_114 rfl dX8_shorten_17 ?_
    refine lv_iload_n hx hb dX8_shorten_20 rfl (lv_at hl 1 rfl) ?_
    refine lv_bipush (v := 20) hx hb dX8_shorten_21 (by decide) ?_
    refine lv_imul hx hb dX8_shorten_23 ?_
    obtain ⟨q24, hq24, hf⟩ := mm_bd hf
    refine mm_Vi (rest := [.int x1, .ref (b + 2)]) hC hM (c_X8_stackMoves_this_moves l hq24 hp_this) q2_221 q1_5 ykX8_stackMoves q2_218 q2_220 qp_0024ed5d hp_this.1 rfl ⟨rfl, rfl⟩ ⟨Nat.le_of_ble_eq_true rfl, Nat.le_of_ble_eq_true rfl⟩ rfl hl.1 rfl (Nat.le_of_ble_eq_true rfl) dX8_shorten_24 ⟨Nat.le_of_ble_eq_true rfl, Nat.le_of_ble_eq_true rfl⟩ (fun r w24 H locs hM hw => ?_)
    obtain ⟨hr, hn_this, hfr⟩ := hw
    rw [hr]
    have hp_this := hn_this
    have hF := hF.tr (hfr.wide (by omega) (by omega))
    obtain ⟨hg27, hf⟩ := mm_gd hf
    refine mm_iast hC hM (hp_this.2.2) hg27 dX8_shorten_27 (fun w27 H locs hM hm => ?_)
    have hp_this : At8 G w27 b q24.2 (upd lengths x1.toNatClampNeg q24.1) := ⟨hm.keep (hp_this.1) (by omega), hm.keep (hp_this.2.1) (by omega), hm.1⟩
    have hF := hF.tr (hm.fr (by omega) (by omega))
    refine lv_aload_n hx hb dX8_shorten_28 rfl (lv_at hl 0 rfl) ?_
    refine mm_get hC hM (k := 1) hp_this.1 rfl inAX8 (by decide) q1_115 rfl dX8_shorten_29 ?_
    refine lv_iload_n hx hb dX8_shorten_32 rfl (lv_at hl 1 rfl) ?_
    obtain ⟨hg33, hf⟩ := mm_gd hf
    refine mm_iald hC hM (hp_this.2.2) hg33 dX8_shorten_33 ?_
    cases hf
    exact hret hM dX8_shorten_34 rfl ⟨rfl, hp_this, hF⟩
  · rw [if_pos hcd] at hf
    refine lv_iconst (v := (-1)) hx hb dX8_shorten_7 (by decide) ?_
    cases hf
    exact hret hM dX8_shorten_8 rfl ⟨rfl, hp_this, hF⟩
def f_X8_stackMoves_L6 (moves : Nat → Int32) (lengths : Nat → Int32) (x1 : Int32) (x3 : Int32) : Nat → (Int32) → (Int32) → (Nat → Int32) → Option (Int32 × (Nat → Int32))
  | 0, _, _, _ => none
  | n + 1, x4, x5, p2 => mm_g (mm_ck x1 6) (if (lengths x1.toNatClampNeg) ≤ x5 then some (x4, p2) else (f_X8_moveIn moves x1 x5).bind fun q21 => if x4 ≤ 0 then mm_g (mm_ck (x3 + x4) 20) (f_X8_stackMoves_L6 moves lengths x1 x3 n (x4 + 1) (x5 + 1) (upd p2 ((x3 + x4).toNatClampNeg) q21)) else mm_g (mm_ck ((x3 + x4) - 1) 20) ((f_X12_opposite q21).bind fun q41 => if (p2 ((x3 + x4) - 1).toNatClampNeg) = q41 then f_X8_stackMoves_L6 moves lengths x1 x3 n (x4 + (-1)) (x5 + 1) p2 else mm_g (mm_ck (x3 + x4) 20) (f_X8_stackMoves_L6 moves lengths x1 x3 n (x4 + 1) (x5 + 1) (upd p2 ((x3 + x4).toNatClampNeg) q21))))
def f_X8_stackMoves (K : Nat) (moves : Nat → Int32) (lengths : Nat → Int32) (p2 : Nat → Int32) (x1 : Int32) (x3 : Int32) : Option (Int32 × (Nat → Int32)) := (f_X8_stackMoves_L6 moves lengths x1 x3 K 0 0 p2).bind fun q6 => some (q6.1, q6.2)
set_option maxHeartbeats 4000000 in
set_option maxRecDepth 100000 in
theorem c_X8_stackMoves (l : Launch) {G : mm_G} {K : Nat} {w : va_W} {sz : Nat} {b : Nat} {a2 : Nat} {moves : Nat → Int32} {lengths : Nat → Int32} {p2 : Nat → Int32} {x1 : Int32} {x3 : Int32} {X : Int32 × (Nat → Int32)} (hf : f_X8_stackMoves K moves lengths p2 x1 x3 = some X) (hp_this : At8 G w b moves lengths) (hp_p2 : (a2, (.inl (G.2 0, 20, .inl p2) : va_E)) ∈ w) (hd0 : b + 3 ≤ a2 ∨ a2 + 1 ≤ b) : Met l yX8_stackMoves (Cond.code yX8_stackMoves cX8_stackMoves 7 (some .int) :: gAll) ({ frames := 1, cells := 0, slots := 0, locals := 22 }) (va_Pc [.ref b, .int x1, .ref a2, .int x3] (mm_Pre G w sz)) (mm_Qi G w sz (fun r w' => r = X.1 ∧ (a2, (.inl (G.2 0, 20, .inl X.2) : va_E)) ∈ w' ∧ mm_fr w w' a2 (a2 + 1))) 0 0 (va_A w sz) := by
  refine mm_headI [.ref b, .int x1, .ref a2, .int x3] (by decide +kernel) rfl (Nat.le_of_ble_eq_true rfl) ?_
  intro p e s m args below meth c A Q hsz hC hM hret ls hl
  have hx := hC.1.1
  have hb := hC.1.2.1
  have hl : lv_has ls 7 [(0, .ref b), (1, .int x1), (2, .ref a2), (3, .int x3)] := hl
  have hF : mm_fr w w a2 (a2 + 1) := mm_fr.rf
  rw [f_X8_stackMoves] at hf
  refine lv_iconst (v := 0) hx hb dX8_stackMoves_0 (by decide) ?_
  refine lv_istore (lv' := [(4, .int 0), (0, .ref b), (1, .int x1), (2, .ref a2), (3, .int x3)]) hx hb dX8_stackMoves_1 hl (by decide) rfl (fun ls hl => ?_)
  refine lv_iconst (v := 0) hx hb dX8_stackMoves_3 (by decide) ?_
  refine lv_istore (lv' := [(5, .int 0), (4, .int 0), (0, .ref b), (1, .int x1), (2, .ref a2), (3, .int x3)]) hx hb dX8_stackMoves_4 hl (by decide) rfl (fun ls hl => ?_)
  have L6 : ∀ (n : Nat) (L6_x4 : Int32) (L6_x5 : Int32) (L6_p2 : Nat → Int32) (X : Int32 × (Nat → Int32)), f_X8_stackMoves_L6 moves lengths x1 x3 n L6_x4 L6_x5 L6_p2 = some X → ∀ (L6_w : va_W) (H : Heap) (locs : List Loc), mm_S G A s.heap L6_w H locs → At8 G L6_w b moves lengths → (a2, (.inl (G.2 0, 20, .inl L6_p2) : va_E)) ∈ L6_w → mm_fr w L6_w a2 (a2 + 1) → ∀ (ls : Array Slot), lv_has ls 7 [(0, .ref b), (1, .int x1), (2, .ref a2), (3, .int x3), (4, .int L6_x4), (5, .int L6_x5)] → (∀ (w9 : va_W) (H : Heap) (locs : List Loc), mm_S G A s.heap w9 H locs → At8 G w9 b moves lengths → (a2, (.inl (G.2 0, 20, .inl X.2) : va_E)) ∈ w9 → mm_fr w w9 a2 (a2 + 1) → ∀ (ls : Array Slot), lv_has ls 7 [(4, .int X.1)] → W p l e ({ frames := 1, cells := 0, slots := 0, locals := 22 } : Room) s m args below meth c H locs 0 0 Q (F0 m 70 ls [])) → W p l e ({ frames := 1, cells := 0, slots := 0, locals := 22 } : Room) s m args below meth c H locs 0 0 Q (F0 m 6 ls []) := by
    intro n
    induction n with
    | zero => intro L6_x4 L6_x5 L6_p2 X hf; cases hf
    | succ n ih =>
      intro L6_x4 L6_x5 L6_p2 X hf L6_w H locs hM hp_this hp_p2 hF ls hl hk
      rw [f_X8_stackMoves_L6] at hf
      refine lv_iload hx hb dX8_stackMoves_6 (lv_at hl 5 rfl) ?_
      refine lv_aload_n hx hb dX8_stackMoves_8 rfl (lv_at hl 0 rfl) ?_
      refine mm_get hC hM (k := 1) hp_this.1 rfl inAX8 (by decide) q1_115 rfl dX8_stackMoves_9 ?_
      refine lv_iload_n hx hb dX8_stackMoves_12 rfl (lv_at hl 1 rfl) ?_
      obtain ⟨hg13, hf⟩ := mm_gd hf
      refine mm_iald hC hM (hp_this.2.2) hg13 dX8_stackMoves_13 ?_
      refine lv_icmp_ge (tgt := 70) hx hb dX8_stackMoves_14 (by decide) (fun hcd => ?_) (fun hcd => ?_)
      · rw [if_pos hcd] at hf
        cases hf
        exact hk _ _ _ hM hp_this hp_p2 hF _ (lv_sub hl [4] rfl)
      · rw [if_neg hcd] at hf
        refine lv_aload_n hx hb dX8_stackMoves_17 rfl (lv_at hl 0 rfl) ?_
        refine lv_iload_n hx hb dX8_stackMoves_18 rfl (lv_at hl 1 rfl) ?_
        refine lv_iload hx hb dX8_stackMoves_19 (lv_at hl 5 rfl) ?_
        obtain ⟨q21, hq21, hf⟩ := mm_bd hf
        refine mm_Vi (rest := []) hC hM (c_X8_moveIn l hq21 hp_this) q2_225 q1_5 ykX8_moveIn q2_222 q2_223 q2_224 hp_this.1 rfl ⟨rfl, rfl⟩ ⟨Nat.le_of_ble_eq_true rfl, Nat.le_of_ble_eq_true rfl⟩ rfl hl.1 rfl (Nat.le_of_ble_eq_true rfl) dX8_stackMoves_21 ⟨Nat.le_of_ble_eq_true rfl, Nat.le_of_ble_eq_true rfl⟩ (fun r w21 H locs hM hw => ?_)
        obtain ⟨hr, hw⟩ := hw
        rw [hr]
        rw [hw] at hM
        refine lv_istore (lv' := [(6, .int q21), (0, .ref b), (1, .int x1), (2, .ref a2), (3, .int x3), (4, .int L6_x4), (5, .int L6_x5)]) hx hb dX8_stackMoves_24 hl (by decide) rfl (fun ls hl => ?_)
        refine lv_iload hx hb dX8_stackMoves_26 (lv_at hl 5 rfl) ?_
        refine lv_if_le (tgt := 53) hx hb dX8_stackMoves_28 (by decide) (fun hcd => ?_) (fun hcd => ?_)
        · rw [if_pos hcd] at hf
          refine lv_aload_n hx hb dX8_stackMoves_53 rfl (lv_at hl 3 rfl) ?_
          refine lv_iload_n hx hb dX8_stackMoves_54 rfl (lv_at hl 4 rfl) ?_
          refine lv_iload hx hb dX8_stackMoves_55 (lv_at hl 5 rfl) ?_
          refine lv_iadd hx hb dX8_stackMoves_57 ?_
          refine lv_iload hx hb dX8_stackMoves_58 (lv_at hl 0 rfl) ?_
          obtain ⟨hg60, hf⟩ := mm_gd hf
          refine mm_iast hC hM hp_p2 hg60 dX8_stackMoves_60 (fun w60 H locs hM hm => ?_)
          have hp_this := hp_this.up hm (by omega)
          have hp_p2 := hm.1
          have hF := hF.tr (hm.fr (by omega) (by omega))
          refine lv_iinc (v := (L6_x4 + 1)) (lv' := [(4, .int (L6_x4 + 1)), (6, .int q21), (0, .ref b), (1, .int x1), (2, .ref a2), (3, .int x3), (5, .int L6_x5)]) hx hb dX8_stackMoves_61 hl (k := 5) rfl rfl (by decide) rfl (fun ls hl => ?_)
          refine lv_iinc (v := (L6_x5 + 1)) (lv' := [(5, .int (L6_x5 + 1)), (4, .int (L6_x4 + 1)), (6, .int q21), (0, .ref b), (1, .int x1), (2, .ref a2), (3, .int x3)]) hx hb dX8_stackMoves_64 hl (k := 6) rfl rfl (by decide) rfl (fun ls hl => ?_)
          refine lv_goto (tgt := 6) hx hb dX8_stackMoves_67 (by decide) ?_
          exact ih _ _ _ _ hf _ _ _ hM hp_this hp_p2 hF _ (lv_sub hl [3, 4, 5, 6, 1, 0] rfl) hk
        · rw [if_neg hcd] at hf
          refine lv_aload_n hx hb dX8_stackMoves_31 rfl (lv_at hl 3 rfl) ?_
          refine lv_iload_n hx hb dX8_stackMoves_32 rfl (lv_at hl 4 rfl) ?_
          refine lv_iload hx hb dX8_stackMoves_33 (lv_at hl 5 rfl) ?_
          refine lv_iadd hx hb dX8_stackMoves_35 ?_
          refine lv_iconst (v := 1) hx hb dX8_stackMoves_36 (by decide) ?_
          refine lv_isub hx hb dX8_stackMoves_37 ?_
          obtain ⟨hg38, hf⟩ := mm_gd hf
          refine mm_iald hC hM hp_p2 hg38 dX8_stackMoves_38 ?_
          refine lv_iload hx hb dX8_stackMoves_39 (lv_at hl 0 rfl) ?_
          obtain ⟨q41, hq41, hf⟩ := mm_bd hf
          refine mm_SNi (rest := [.int (L6_p2 ((x3 + L6_x4) - 1).toNatClampNeg)]) hC hM (c_X12_opposite l hq41) q2_228 q1_1 ykX12_opposite q2_226 q2_227 ⟨rfl, rfl⟩ ⟨Nat.le_of_ble_eq_true rfl, Nat.le_of_ble_eq_true rfl⟩ rfl hl.1 rfl (Nat.le_of_ble_eq_true rfl) dX8_stackMoves_41 ⟨Nat.le_of_ble_eq_true rfl, Nat.le_of_ble_eq_true rfl⟩ (fun r w41 H locs hM hw => ?_)
          obtain ⟨hr, hw⟩ := hw
          rw [hr]
          rw [hw] at hM
          refine lv_icmp_ne (tgt := 53) hx hb dX8_stackMoves_44 (by decide) (fun hcd => ?_) (fun hcd => ?_)
          · rw [if_neg hcd] at hf
            refine lv_aload_n hx hb dX8_stackMoves_53 rfl (lv_at hl 3 rfl) ?_
            refine lv_iload_n hx hb dX8_stackMoves_54 rfl (lv_at hl 4 rfl) ?_
            refine lv_iload hx hb dX8_stackMoves_55 (lv_at hl 5 rfl) ?_
            refine lv_iadd hx hb dX8_stackMoves_57 ?_
            refine lv_iload hx hb dX8_stackMoves_58 (lv_at hl 0 rfl) ?_
            obtain ⟨hg60, hf⟩ := mm_gd hf
            refine mm_iast hC hM hp_p2 hg60 dX8_stackMoves_60 (fun w60 H locs hM hm => ?_)
            have hp_this := hp_this.up hm (by omega)
            have hp_p2 := hm.1
            have hF := hF.tr (hm.fr (by omega) (by omega))
            refine lv_iinc (v := (L6_x4 + 1)) (lv' := [(4, .int (L6_x4 + 1)), (6, .int q21), (0, .ref b), (1, .int x1), (2, .ref a2), (3, .int x3), (5, .int L6_x5)]) hx hb dX8_stackMoves_61 hl (k := 5) rfl rfl (by decide) rfl (fun ls hl => ?_)
            refine lv_iinc (v := (L6_x5 + 1)) (lv' := [(5, .int (L6_x5 + 1)), (4, .int (L6_x4 + 1)), (6, .int q21), (0, .ref b), (1, .int x1), (2, .ref a2), (3, .int x3)]) hx hb dX8_stackMoves_64 hl (k := 6) rfl rfl (by decide) rfl (fun ls hl => ?_)
            refine lv_goto (tgt := 6) hx hb dX8_stackMoves_67 (by decide) ?_
            exact ih _ _ _ _ hf _ _ _ hM hp_this hp_p2 hF _ (lv_sub hl [3, 4, 5, 6, 1, 0] rfl) hk
          · rw [if_pos hcd] at hf
            refine lv_iinc (v := (L6_x4 + (-1))) (lv' := [(4, .int (L6_x4 + (-1))), (6, .int q21), (0, .ref b), (1, .int x1), (2, .ref a2), (3, .int x3), (5, .int L6_x5)]) hx hb dX8_stackMoves_47 hl (k := 5) rfl rfl (by decide) rfl (fun ls hl => ?_)
            refine lv_goto (tgt := 64) hx hb dX8_stackMoves_50 (by decide) ?_
            refine lv_iinc (v := (L6_x5 + 1)) (lv' := [(5, .int (L6_x5 + 1)), (4, .int (L6_x4 + (-1))), (6, .int q21), (0, .ref b), (1, .int x1), (2, .ref a2), (3, .int x3)]) hx hb dX8_stackMoves_64 hl (k := 6) rfl rfl (by decide) rfl (fun ls hl => ?_)
            refine lv_goto (tgt := 6) hx hb dX8_stackMoves_67 (by decide) ?_
            exact ih _ _ _ _ hf _ _ _ hM hp_this hp_p2 hF _ (lv_sub hl [3, 4, 5, 6, 1, 0] rfl) hk
  obtain ⟨q6, hq6, hf⟩ := mm_bd hf
  refine L6 K _ _ _ _ hq6 _ _ _ hM hp_this hp_p2 hF _ (lv_sub hl [2, 3, 4, 5, 1, 0] rfl) (fun w6 H locs hM hp_this hp_p2 hF ls hl => ?_)
  refine lv_iload hx hb dX8_stackMoves_70 (lv_at hl 0 rfl) ?_
  cases hf
  exact hret hM dX8_stackMoves_72 rfl ⟨rfl, hp_p2, hF⟩
def f_X8_lengthByStack (K : Nat) (moves : Nat → Int32) (lengths : Nat → Int32) (p2 : Nat → Int32) (x1 : Int32) : Option (Int32 × (Nat → Int32)) := (f_X8_stackMoves K moves lengths p2 x1 0).bind fun q4 => some (q4.1, q4.2)
set_option maxHeartbeats 4000000 in
set_option maxRecDepth 100000 in
theorem c_X8_lengthByStack (l : Launch) {G : mm_G} {K : Nat} {w : va_W} {sz : Nat} {b : Nat} {a2 : Nat} {moves : Nat → Int32} {lengths : Nat → Int32} {p2 : Nat → Int32} {x1 : Int32} {X : Int32 × (Nat → Int32)} (hf : f_X8_lengthByStack K moves lengths p2 x1 = some X) (hp_this : At8 G w b moves lengths) (hp_p2 : (a2, (.inl (G.2 0, 20, .inl p2) : va_E)) ∈ w) (hd0 : b + 3 ≤ a2 ∨ a2 + 1 ≤ b) : Met l yX8_lengthByStack (Cond.code yX8_lengthByStack cX8_lengthByStack 3 (some .int) :: gAll) ({ frames := 2, cells := 0, slots := 0, locals := 48 }) (va_Pc [.ref b, .int x1, .ref a2] (mm_Pre G w sz)) (mm_Qi G w sz (fun r w' => r = X.1 ∧ (a2, (.inl (G.2 0, 20, .inl X.2) : va_E)) ∈ w' ∧ mm_fr w w' a2 (a2 + 1))) 0 0 (va_A w sz) := by
  refine mm_headI [.ref b, .int x1, .ref a2] (by decide +kernel) rfl (Nat.le_of_ble_eq_true rfl) ?_
  intro p e s m args below meth c A Q hsz hC hM hret ls hl
  have hx := hC.1.1
  have hb := hC.1.2.1
  have hl : lv_has ls 3 [(0, .ref b), (1, .int x1), (2, .ref a2)] := hl
  have hF : mm_fr w w a2 (a2 + 1) := mm_fr.rf
  rw [f_X8_lengthByStack] at hf
  refine lv_aload_n hx hb dX8_lengthByStack_0 rfl (lv_at hl 0 rfl) ?_
  refine lv_iload_n hx hb dX8_lengthByStack_1 rfl (lv_at hl 1 rfl) ?_
  refine lv_aload_n hx hb dX8_lengthByStack_2 rfl (lv_at hl 2 rfl) ?_
  refine lv_iconst (v := 0) hx hb dX8_lengthByStack_3 (by decide) ?_
  obtain ⟨q4, hq4, hf⟩ := mm_bd hf
  refine mm_Vi (rest := []) hC hM (c_X8_stackMoves l hq4 hp_this hp_p2 (by omega)) q2_221 q1_5 ykX8_stackMoves q2_218 q2_220 qp_0024ed5d hp_this.1 rfl ⟨rfl, rfl⟩ ⟨Nat.le_of_ble_eq_true rfl, Nat.le_of_ble_eq_true rfl⟩ rfl hl.1 rfl (Nat.le_of_ble_eq_true rfl) dX8_lengthByStack_4 ⟨Nat.le_of_ble_eq_true rfl, Nat.le_of_ble_eq_true rfl⟩ (fun r w4 H locs hM hw => ?_)
  obtain ⟨hr, hn_p2, hfr⟩ := hw
  rw [hr]
  have hp_this := hp_this.keep hfr (by omega)
  have hp_p2 := hn_p2
  have hF := hF.tr (hfr.wide (by omega) (by omega))
  cases hf
  exact hret hM dX8_lengthByStack_7 rfl ⟨rfl, hp_p2, hF⟩
def f_X8_firstPair_L2 (p0 : Nat → Int32) (x1 : Int32) : Nat → (Int32) → Option (Int32)
  | 0, _ => none
  | n + 1, x2 => if x1 ≤ (x2 + 1) then some (-1) else mm_g (mm_ck x2 20) (mm_g (mm_ck (x2 + 1) 20) ((f_X12_opposite (p0 (x2 + 1).toNatClampNeg)).bind fun q17 => if (p0 x2.toNatClampNeg) = q17 then some x2 else f_X8_firstPair_L2 p0 x1 n (x2 + 1)))
def f_X8_firstPair (K : Nat) (p0 : Nat → Int32) (x1 : Int32) : Option (Int32) := f_X8_firstPair_L2 p0 x1 K 0
set_option maxHeartbeats 4000000 in
set_option maxRecDepth 100000 in
theorem c_X8_firstPair (l : Launch) {G : mm_G} {K : Nat} {w : va_W} {sz : Nat} {a0 : Nat} {p0 : Nat → Int32} {x1 : Int32} {X : Int32} (hf : f_X8_firstPair K p0 x1 = some X) (hp_p0 : (a0, (.inl (G.2 0, 20, .inl p0) : va_E)) ∈ w) : Met l yX8_firstPair (Cond.code yX8_firstPair cX8_firstPair 3 (some .int) :: gAll) ({ frames := 1, cells := 0, slots := 0, locals := 20 }) (va_Pc [.ref a0, .int x1] (mm_Pre G w sz)) (mm_Qi G w sz (fun r w' => r = X ∧ w' = w)) 0 0 (va_A w sz) := by
  refine mm_headI [.ref a0, .int x1] (by decide +kernel) rfl (Nat.le_of_ble_eq_true rfl) ?_
  intro p e s m args below meth c A Q hsz hC hM hret ls hl
  have hx := hC.1.1
  have hb := hC.1.2.1
  have hl : lv_has ls 3 [(0, .ref a0), (1, .int x1)] := hl
  rw [f_X8_firstPair] at hf
  refine lv_iconst (v := 0) hx hb dX8_firstPair_0 (by decide) ?_
  refine lv_istore_n (lv' := [(2, .int 0), (0, .ref a0), (1, .int x1)]) hx hb dX8_firstPair_1 rfl hl (by decide) rfl (fun ls hl => ?_)
  have L2 : ∀ (n : Nat) (L2_x2 : Int32), f_X8_firstPair_L2 p0 x1 n L2_x2 = some X → ∀ (H : Heap) (locs : List Loc), mm_S G A s.heap w H locs → ∀ (ls : Array Slot), lv_has ls 3 [(0, .ref a0), (1, .int x1), (2, .int L2_x2)] → W p l e ({ frames := 1, cells := 0, slots := 0, locals := 20 } : Room) s m args below meth c H locs 0 0 Q (F0 m 2 ls []) := by
    intro n
    induction n with
    | zero => intro L2_x2 hf; cases hf
    | succ n ih =>
      intro L2_x2 hf H locs hM ls hl
      rw [f_X8_firstPair_L2] at hf
      refine lv_iload_n hx hb dX8_firstPair_2 rfl (lv_at hl 2 rfl) ?_
      refine lv_iconst (v := 1) hx hb dX8_firstPair_3 (by decide) ?_
      refine lv_iadd hx hb dX8_firstPair_4 ?_
      refine lv_iload_n hx hb dX8_firstPair_5 rfl (lv_at hl 1 rfl) ?_
      refine lv_icmp_ge (tgt := 31) hx hb dX8_firstPair_6 (by decide) (fun hcd => ?_) (fun hcd => ?_)
      · rw [if_pos hcd] at hf
        refine lv_iconst (v := (-1)) hx hb dX8_firstPair_31 (by decide) ?_
        cases hf
        exact hret hM dX8_firstPair_32 rfl ⟨rfl, rfl⟩
      · rw [if_neg hcd] at hf
        refine lv_aload_n hx hb dX8_firstPair_9 rfl (lv_at hl 0 rfl) ?_
        refine lv_iload_n hx hb dX8_firstPair_10 rfl (lv_at hl 2 rfl) ?_
        obtain ⟨hg11, hf⟩ := mm_gd hf
        refine mm_iald hC hM hp_p0 hg11 dX8_firstPair_11 ?_
        refine lv_aload_n hx hb dX8_firstPair_12 rfl (lv_at hl 0 rfl) ?_
        refine lv_iload_n hx hb dX8_firstPair_13 rfl (lv_at hl 2 rfl) ?_
        refine lv_iconst (v := 1) hx hb dX8_firstPair_14 (by decide) ?_
        refine lv_iadd hx hb dX8_firstPair_15 ?_
        obtain ⟨hg16, hf⟩ := mm_gd hf
        refine mm_iald hC hM hp_p0 hg16 dX8_firstPair_16 ?_
        obtain ⟨q17, hq17, hf⟩ := mm_bd hf
        refine mm_SNi (rest := [.int (p0 L2_x2.toNatClampNeg)]) hC hM (c_X12_opposite l hq17) q2_228 q1_1 ykX12_opposite q2_226 q2_227 ⟨rfl, rfl⟩ ⟨Nat.le_of_ble_eq_true rfl, Nat.le_of_ble_eq_true rfl⟩ rfl hl.1 rfl (Nat.le_of_ble_eq_true rfl) dX8_firstPair_17 ⟨Nat.le_of_ble_eq_true rfl, Nat.le_of_ble_eq_true rfl⟩ (fun r w17 H locs hM hw => ?_)
        obtain ⟨hr, hw⟩ := hw
        rw [hr]
        rw [hw] at hM
        refine lv_icmp_ne (tgt := 25) hx hb dX8_firstPair_20 (by decide) (fun hcd => ?_) (fun hcd => ?_)
        · rw [if_neg hcd] at hf
          refine lv_iinc (v := (L2_x2 + 1)) (lv' := [(2, .int (L2_x2 + 1)), (0, .ref a0), (1, .int x1)]) hx hb dX8_firstPair_25 hl (k := 2) rfl rfl (by decide) rfl (fun ls hl => ?_)
          refine lv_goto (tgt := 2) hx hb dX8_firstPair_28 (by decide) ?_
          exact ih _ hf _ _ hM _ (lv_sub hl [1, 2, 0] rfl)
        · rw [if_pos hcd] at hf
          refine lv_iload_n hx hb dX8_firstPair_23 rfl (lv_at hl 2 rfl) ?_
          cases hf
          exact hret hM dX8_firstPair_24 rfl ⟨rfl, rfl⟩
  exact L2 K _ hf _ _ hM _ (lv_sub hl [1, 2, 0] rfl)
def f_X8_lengthByPairs_L50 (x3 : Int32) : Nat → (Int32) → (Nat → Int32) → Option (Nat → Int32)
  | 0, _, _ => none
  | n + 1, x6, p2 => if x3 ≤ x6 then some p2 else mm_g (mm_ck x6 20) (mm_g (mm_ck (x6 - 2) 20) (f_X8_lengthByPairs_L50 x3 n (x6 + 1) (upd p2 ((x6 - 2).toNatClampNeg) (p2 x6.toNatClampNeg))))
def f_X8_lengthByPairs_L31 (K : Nat) : Nat → (Int32) → (Int32) → (Int32) → (Nat → Int32) → Option (Int32 × (Nat → Int32))
  | 0, _, _, _, _ => none
  | n + 1, x3, x4, x5, p2 => if 20 ≤ x5 then some (x3, p2) else if x4 = (-1) then some (x3, p2) else (f_X8_lengthByPairs_L50 x3 K (x4 + 2) p2).bind fun q50 => (f_X8_firstPair K q50 (x3 + (-2))).bind fun q77 => f_X8_lengthByPairs_L31 K n (x3 + (-2)) q77 (x5 + 1) q50
def f_X8_lengthByPairs (K : Nat) (moves : Nat → Int32) (lengths : Nat → Int32) (p2 : Nat → Int32) (x1 : Int32) : Option (Int32 × (Nat → Int32)) := mm_g (mm_ck x1 6) (mm_g (mm_cp (x1 * 20) 0 (lengths x1.toNatClampNeg) 120 20) ((f_X8_firstPair K (va_cpy moves p2 ((x1 * 20).toNatClampNeg) 0 ((lengths x1.toNatClampNeg).toNatClampNeg)) (lengths x1.toNatClampNeg)).bind fun q23 => (f_X8_lengthByPairs_L31 K K (lengths x1.toNatClampNeg) q23 0 (va_cpy moves p2 ((x1 * 20).toNatClampNeg) 0 ((lengths x1.toNatClampNeg).toNatClampNeg))).bind fun q31 => some (q31.1, q31.2)))
set_option maxHeartbeats 4000000 in
set_option maxRecDepth 100000 in
theorem c_X8_lengthByPairs (l : Launch) {G : mm_G} {K : Nat} {w : va_W} {sz : Nat} {b : Nat} {a2 : Nat} {moves : Nat → Int32} {lengths : Nat → Int32} {p2 : Nat → Int32} {x1 : Int32} {X : Int32 × (Nat → Int32)} (hf : f_X8_lengthByPairs K moves lengths p2 x1 = some X) (hp_this : At8 G w b moves lengths) (hp_p2 : (a2, (.inl (G.2 0, 20, .inl p2) : va_E)) ∈ w) (hd0 : b + 3 ≤ a2 ∨ a2 + 1 ≤ b) : Met l yX8_lengthByPairs (Cond.code yX8_lengthByPairs cX8_lengthByPairs 7 (some .int) :: gAll) ({ frames := 2, cells := 0, slots := 0, locals := 60 }) (va_Pc [.ref b, .int x1, .ref a2] (mm_Pre G w sz)) (mm_Qi G w sz (fun r w' => r = X.1 ∧ (a2, (.inl (G.2 0, 20, .inl X.2) : va_E)) ∈ w' ∧ mm_fr w w' a2 (a2 + 1))) 0 0 (va_A w sz) := by
  refine mm_headI [.ref b, .int x1, .ref a2] (by decide +kernel) rfl (Nat.le_of_ble_eq_true rfl) ?_
  intro p e s m args below meth c A Q hsz hC hM hret ls hl
  have hx := hC.1.1
  have hb := hC.1.2.1
  have hl : lv_has ls 7 [(0, .ref b), (1, .int x1), (2, .ref a2)] := hl
  have hF : mm_fr w w a2 (a2 + 1) := mm_fr.rf
  rw [f_X8_lengthByPairs] at hf
  refine lv_aload_n hx hb dX8_lengthByPairs_0 rfl (lv_at hl 0 rfl) ?_
  refine mm_get hC hM (k := 1) hp_this.1 rfl inAX8 (by decide) q1_115 rfl dX8_lengthByPairs_1 ?_
  refine lv_iload_n hx hb dX8_lengthByPairs_4 rfl (lv_at hl 1 rfl) ?_
  obtain ⟨hg5, hf⟩ := mm_gd hf
  refine mm_iald hC hM (hp_this.2.2) hg5 dX8_lengthByPairs_5 ?_
  refine lv_istore_n (lv' := [(3, .int (lengths x1.toNatClampNeg)), (0, .ref b), (1, .int x1), (2, .ref a2)]) hx hb dX8_lengthByPairs_6 rfl hl (by decide) rfl (fun ls hl => ?_)
  refine lv_aload_n hx hb dX8_lengthByPairs_7 rfl (lv_at hl 1 rfl) ?_
  refine mm_get hC hM (k := 0) hp_this.1 rfl inAX8 (by decide) q1_114 rfl dX8_lengthByPairs_8 ?_
  refine lv_iload_n hx hb dX8_lengthByPairs_11 rfl (lv_at hl 2 rfl) ?_
  refine lv_bipush (v := 20) hx hb dX8_lengthByPairs_12 (by decide) ?_
  refine lv_imul hx hb dX8_lengthByPairs_14 ?_
  refine lv_aload_n hx hb dX8_lengthByPairs_15 rfl (lv_at hl 3 rfl) ?_
  refine lv_iconst (v := 0) hx hb dX8_lengthByPairs_16 (by decide) ?_
  refine lv_iload_n hx hb dX8_lengthByPairs_17 rfl (lv_at hl 0 rfl) ?_
  obtain ⟨hg18, hf⟩ := mm_gcp hf
  refine mm_copy (S1 := (x1 * 20).toNatClampNeg) (D1 := 0) (N1 := (lengths x1.toNatClampNeg).toNatClampNeg) hC hM (hp_this.2.1) hp_p2 hg18.1 hg18.2.1 hg18.2.2.1 hg18.2.2.2.1 hg18.2.2.2.2 rfl (by decide) rfl (hC.1.2.2.1.trans hl.1.symm) q2_233 q2_235 q2_234 q1_19 (Nat.le_of_ble_eq_true rfl) (Nat.le_of_ble_eq_true rfl) dX8_lengthByPairs_18 (fun w18 H locs hM hm => ?_)
  have hp_this := hp_this.up hm (by omega)
  have hp_p2 := hm.1
  have hF := hF.tr (hm.fr (by omega) (by omega))
  refine lv_aload_n hx hb dX8_lengthByPairs_21 rfl (lv_at hl 3 rfl) ?_
  refine lv_iload_n hx hb dX8_lengthByPairs_22 rfl (lv_at hl 0 rfl) ?_
  obtain ⟨q23, hq23, hf⟩ := mm_bd hf
  refine mm_Si (rest := []) hC hM (c_X8_firstPair l hq23 hp_p2) q2_238 q1_5 ykX8_firstPair q2_236 q2_237 ⟨rfl, rfl⟩ ⟨Nat.le_of_ble_eq_true rfl, Nat.le_of_ble_eq_true rfl⟩ rfl hl.1 rfl (Nat.le_of_ble_eq_true rfl) dX8_lengthByPairs_23 ⟨Nat.le_of_ble_eq_true rfl, Nat.le_of_ble_eq_true rfl⟩ (fun r w23 H locs hM hw => ?_)
  obtain ⟨hr, hw⟩ := hw
  rw [hr]
  rw [hw] at hM
  refine lv_istore (lv' := [(4, .int q23), (3, .int (lengths x1.toNatClampNeg)), (0, .ref b), (1, .int x1), (2, .ref a2)]) hx hb dX8_lengthByPairs_26 hl (by decide) rfl (fun ls hl => ?_)
  refine lv_iconst (v := 0) hx hb dX8_lengthByPairs_28 (by decide) ?_
  refine lv_istore (lv' := [(5, .int 0), (4, .int q23), (3, .int (lengths x1.toNatClampNeg)), (0, .ref b), (1, .int x1), (2, .ref a2)]) hx hb dX8_lengthByPairs_29 hl (by decide) rfl (fun ls hl => ?_)
  have L31 : ∀ (n : Nat) (L31_x3 : Int32) (L31_x4 : Int32) (L31_x5 : Int32) (L31_p2 : Nat → Int32) (X : Int32 × (Nat → Int32)), f_X8_lengthByPairs_L31 K n L31_x3 L31_x4 L31_x5 L31_p2 = some X → ∀ (L31_w : va_W) (H : Heap) (locs : List Loc), mm_S G A s.heap L31_w H locs → At8 G L31_w b moves lengths → (a2, (.inl (G.2 0, 20, .inl L31_p2) : va_E)) ∈ L31_w → mm_fr w L31_w a2 (a2 + 1) → ∀ (ls : Array Slot), lv_has ls 7 [(2, .ref a2), (3, .int L31_x3), (4, .int L31_x4), (5, .int L31_x5)] → (∀ (w9 : va_W) (H : Heap) (locs : List Loc), mm_S G A s.heap w9 H locs → At8 G w9 b moves lengths → (a2, (.inl (G.2 0, 20, .inl X.2) : va_E)) ∈ w9 → mm_fr w w9 a2 (a2 + 1) → ∀ (ls : Array Slot), lv_has ls 7 [(3, .int X.1)] → W p l e ({ frames := 2, cells := 0, slots := 0, locals := 60 } : Room) s m args below meth c H locs 0 0 Q (F0 m 88 ls [])) → W p l e ({ frames := 2, cells := 0, slots := 0, locals := 60 } : Room) s m args below meth c H locs 0 0 Q (F0 m 31 ls []) := by
    intro n
    induction n with
    | zero => intro L31_x3 L31_x4 L31_x5 L31_p2 X hf; cases hf
    | succ n ih =>
      intro L31_x3 L31_x4 L31_x5 L31_p2 X hf L31_w H locs hM hp_this hp_p2 hF ls hl hk
      rw [f_X8_lengthByPairs_L31] at hf
      refine lv_iload hx hb dX8_lengthByPairs_31 (lv_at hl 3 rfl) ?_
      refine lv_bipush (v := 20) hx hb dX8_lengthByPairs_33 (by decide) ?_
      refine lv_icmp_ge (tgt := 88) hx hb dX8_lengthByPairs_35 (by decide) (fun hcd => ?_) (fun hcd => ?_)
      · rw [if_pos hcd] at hf
        cases hf
        exact hk _ _ _ hM hp_this hp_p2 hF _ (lv_sub hl [1] rfl)
      · rw [if_neg hcd] at hf
        refine lv_iload hx hb dX8_lengthByPairs_38 (lv_at hl 2 rfl) ?_
        refine lv_iconst (v := (-1)) hx hb dX8_lengthByPairs_40 (by decide) ?_
        refine lv_icmp_eq (tgt := 88) hx hb dX8_lengthByPairs_41 (by decide) (fun hcd => ?_) (fun hcd => ?_)
        · rw [if_pos hcd] at hf
          cases hf
          exact hk _ _ _ hM hp_this hp_p2 hF _ (lv_sub hl [1] rfl)
        · rw [if_neg hcd] at hf
          refine lv_iload hx hb dX8_lengthByPairs_44 (lv_at hl 2 rfl) ?_
          refine lv_iconst (v := 2) hx hb dX8_lengthByPairs_46 (by decide) ?_
          refine lv_iadd hx hb dX8_lengthByPairs_47 ?_
          refine lv_istore (lv' := [(6, .int (L31_x4 + 2)), (2, .ref a2), (3, .int L31_x3), (4, .int L31_x4), (5, .int L31_x5)]) hx hb dX8_lengthByPairs_48 hl (by decide) rfl (fun ls hl => ?_)
          have L50 : ∀ (n : Nat) (L50_x6 : Int32) (L50_p2 : Nat → Int32) (X : Nat → Int32), f_X8_lengthByPairs_L50 L31_x3 n L50_x6 L50_p2 = some X → ∀ (L50_w : va_W) (H : Heap) (locs : List Loc), mm_S G A s.heap L50_w H locs → At8 G L50_w b moves lengths → (a2, (.inl (G.2 0, 20, .inl L50_p2) : va_E)) ∈ L50_w → mm_fr w L50_w a2 (a2 + 1) → ∀ (ls : Array Slot), lv_has ls 7 [(2, .ref a2), (3, .int L31_x3), (5, .int L31_x5), (6, .int L50_x6)] → (∀ (w9 : va_W) (H : Heap) (locs : List Loc), mm_S G A s.heap w9 H locs → At8 G w9 b moves lengths → (a2, (.inl (G.2 0, 20, .inl X) : va_E)) ∈ w9 → mm_fr w w9 a2 (a2 + 1) → ∀ (ls : Array Slot), lv_has ls 7 [(2, .ref a2), (3, .int L31_x3), (5, .int L31_x5)] → W p l e ({ frames := 2, cells := 0, slots := 0, locals := 60 } : Room) s m args below meth c H locs 0 0 Q (F0 m 72 ls [])) → W p l e ({ frames := 2, cells := 0, slots := 0, locals := 60 } : Room) s m args below meth c H locs 0 0 Q (F0 m 50 ls []) := by
            intro n
            induction n with
            | zero => intro L50_x6 L50_p2 X hf; cases hf
            | succ n ih =>
              intro L50_x6 L50_p2 X hf L50_w H locs hM hp_this hp_p2 hF ls hl hk
              rw [f_X8_lengthByPairs_L50] at hf
              refine lv_iload hx hb dX8_lengthByPairs_50 (lv_at hl 3 rfl) ?_
              refine lv_iload_n hx hb dX8_lengthByPairs_52 rfl (lv_at hl 1 rfl) ?_
              refine lv_icmp_ge (tgt := 72) hx hb dX8_lengthByPairs_53 (by decide) (fun hcd => ?_) (fun hcd => ?_)
              · rw [if_pos hcd] at hf
                cases hf
                exact hk _ _ _ hM hp_this hp_p2 hF _ (lv_sub hl [0, 1, 2] rfl)
              · rw [if_neg hcd] at hf
                refine lv_aload_n hx hb dX8_lengthByPairs_56 rfl (lv_at hl 0 rfl) ?_
                refine lv_iload hx hb dX8_lengthByPairs_57 (lv_at hl 3 rfl) ?_
                refine lv_iconst (v := 2) hx hb dX8_lengthByPairs_59 (by decide) ?_
                refine lv_isub hx hb dX8_lengthByPairs_60 ?_
                refine lv_aload_n hx hb dX8_lengthByPairs_61 rfl (lv_at hl 0 rfl) ?_
                refine lv_iload hx hb dX8_lengthByPairs_62 (lv_at hl 3 rfl) ?_
                obtain ⟨hg64, hf⟩ := mm_gd hf
                refine mm_iald hC hM hp_p2 hg64 dX8_lengthByPairs_64 ?_
                obtain ⟨hg65, hf⟩ := mm_gd hf
                refine mm_iast hC hM hp_p2 hg65 dX8_lengthByPairs_65 (fun w65 H locs hM hm => ?_)
                have hp_this := hp_this.up hm (by omega)
                have hp_p2 := hm.1
                have hF := hF.tr (hm.fr (by omega) (by omega))
                refine lv_iinc (v := (L50_x6 + 1)) (lv' := [(6, .int (L50_x6 + 1)), (2, .ref a2), (3, .int L31_x3), (5, .int L31_x5)]) hx hb dX8_lengthByPairs_66 hl (k := 3) rfl rfl (by decide) rfl (fun ls hl => ?_)
                refine lv_goto (tgt := 50) hx hb dX8_lengthByPairs_69 (by decide) ?_
                exact ih _ _ _ hf _ _ _ hM hp_this hp_p2 hF _ (lv_sub hl [1, 2, 3, 0] rfl) hk
          obtain ⟨q50, hq50, hf⟩ := mm_bd hf
          refine L50 K _ _ _ hq50 _ _ _ hM hp_this hp_p2 hF _ (lv_sub hl [1, 2, 4, 0] rfl) (fun w50 H locs hM hp_this hp_p2 hF ls hl => ?_)
          refine lv_iinc (v := (L31_x3 + (-2))) (lv' := [(3, .int (L31_x3 + (-2))), (2, .ref a2), (5, .int L31_x5)]) hx hb dX8_lengthByPairs_72 hl (k := 1) rfl rfl (by decide) rfl (fun ls hl => ?_)
          refine lv_aload_n hx hb dX8_lengthByPairs_75 rfl (lv_at hl 1 rfl) ?_
          refine lv_iload_n hx hb dX8_lengthByPairs_76 rfl (lv_at hl 0 rfl) ?_
          obtain ⟨q77, hq77, hf⟩ := mm_bd hf
          refine mm_Si (rest := []) hC hM (c_X8_firstPair l hq77 hp_p2) q2_238 q1_5 ykX8_firstPair q2_236 q2_237 ⟨rfl, rfl⟩ ⟨Nat.le_of_ble_eq_true rfl, Nat.le_of_ble_eq_true rfl⟩ rfl hl.1 rfl (Nat.le_of_ble_eq_true rfl) dX8_lengthByPairs_77 ⟨Nat.le_of_ble_eq_true rfl, Nat.le_of_ble_eq_true rfl⟩ (fun r w77 H locs hM hw => ?_)
          obtain ⟨hr, hw⟩ := hw
          rw [hr]
          rw [hw] at hM
          refine lv_istore (lv' := [(4, .int q77), (3, .int (L31_x3 + (-2))), (2, .ref a2), (5, .int L31_x5)]) hx hb dX8_lengthByPairs_80 hl (by decide) rfl (fun ls hl => ?_)
          refine lv_iinc (v := (L31_x5 + 1)) (lv' := [(5, .int (L31_x5 + 1)), (4, .int q77), (3, .int (L31_x3 + (-2))), (2, .ref a2)]) hx hb dX8_lengthByPairs_82 hl (k := 3) rfl rfl (by decide) rfl (fun ls hl => ?_)
          refine lv_goto (tgt := 31) hx hb dX8_lengthByPairs_85 (by decide) ?_
          exact ih _ _ _ _ _ hf _ _ _ hM hp_this hp_p2 hF _ (lv_sub hl [3, 2, 1, 0] rfl) hk
  obtain ⟨q31, hq31, hf⟩ := mm_bd hf
  refine L31 K _ _ _ _ _ hq31 _ _ _ hM hp_this hp_p2 hF _ (lv_sub hl [5, 2, 1, 0] rfl) (fun w31 H locs hM hp_this hp_p2 hF ls hl => ?_)
  refine lv_iload_n hx hb dX8_lengthByPairs_88 rfl (lv_at hl 0 rfl) ?_
  cases hf
  exact hret hM dX8_lengthByPairs_89 rfl ⟨rfl, hp_p2, hF⟩
def f_X8_mirrorEachOther_L19 (moves : Nat → Int32) (lengths : Nat → Int32) (x1 : Int32) (x2 : Int32) : Nat → (Int32) → Option (Int32)
  | 0, _ => none
  | n + 1, x3 => mm_g (mm_ck x1 6) (if (lengths x1.toNatClampNeg) ≤ x3 then some 1 else (f_X8_moveIn moves x1 x3).bind fun q32 => (f_X8_moveIn moves x2 x3).bind fun q38 => (f_X12_mirrored q38).bind fun q41 => if q32 = q41 then f_X8_mirrorEachOther_L19 moves lengths x1 x2 n (x3 + 1) else some 0)
def f_X8_mirrorEachOther (K : Nat) (moves : Nat → Int32) (lengths : Nat → Int32) (x1 : Int32) (x2 : Int32) : Option (Int32) := mm_g (mm_ck x1 6) (mm_g (mm_ck x2 6) (if (lengths x1.toNatClampNeg) = (lengths x2.toNatClampNeg) then f_X8_mirrorEachOther_L19 moves lengths x1 x2 K 0 else some 0))
set_option maxHeartbeats 4000000 in
set_option maxRecDepth 100000 in
theorem c_X8_mirrorEachOther (l : Launch) {G : mm_G} {K : Nat} {w : va_W} {sz : Nat} {b : Nat} {moves : Nat → Int32} {lengths : Nat → Int32} {x1 : Int32} {x2 : Int32} {X : Int32} (hf : f_X8_mirrorEachOther K moves lengths x1 x2 = some X) (hp_this : At8 G w b moves lengths) : Met l yX8_mirrorEachOther (Cond.code yX8_mirrorEachOther cX8_mirrorEachOther 4 (some .boolean) :: gAll) ({ frames := 2, cells := 0, slots := 0, locals := 40 }) (va_Pc [.ref b, .int x1, .int x2] (mm_Pre G w sz)) (mm_Qi G w sz (fun r w' => r = X ∧ w' = w)) 0 0 (va_A w sz) := by
  refine mm_headI [.ref b, .int x1, .int x2] (by decide +kernel) rfl (Nat.le_of_ble_eq_true rfl) ?_
  intro p e s m args below meth c A Q hsz hC hM hret ls hl
  have hx := hC.1.1
  have hb := hC.1.2.1
  have hl : lv_has ls 4 [(0, .ref b), (1, .int x1), (2, .int x2)] := hl
  rw [f_X8_mirrorEachOther] at hf
  refine lv_aload_n hx hb dX8_mirrorEachOther_0 rfl (lv_at hl 0 rfl) ?_
  refine mm_get hC hM (k := 1) hp_this.1 rfl inAX8 (by decide) q1_115 rfl dX8_mirrorEachOther_1 ?_
  refine lv_iload_n hx hb dX8_mirrorEachOther_4 rfl (lv_at hl 1 rfl) ?_
  obtain ⟨hg5, hf⟩ := mm_gd hf
  refine mm_iald hC hM (hp_this.2.2) hg5 dX8_mirrorEachOther_5 ?_
  refine lv_aload_n hx hb dX8_mirrorEachOther_6 rfl (lv_at hl 0 rfl) ?_
  refine mm_get hC hM (k := 1) hp_this.1 rfl inAX8 (by decide) q1_115 rfl dX8_mirrorEachOther_7 ?_
  refine lv_iload_n hx hb dX8_mirrorEachOther_10 rfl (lv_at hl 2 rfl) ?_
  obtain ⟨hg11, hf⟩ := mm_gd hf
  refine mm_iald hC hM (hp_this.2.2) hg11 dX8_mirrorEachOther_11 ?_
  refine lv_icmp_eq (tgt := 17) hx hb dX8_mirrorEachOther_12 (by decide) (fun hcd => ?_) (fun hcd => ?_)
  · rw [if_pos hcd] at hf
    refine lv_iconst (v := 0) hx hb dX8_mirrorEachOther_17 (by decide) ?_
    refine lv_istore_n (lv' := [(3, .int 0), (0, .ref b), (1, .int x1), (2, .int x2)]) hx hb dX8_mirrorEachOther_18 rfl hl (by decide) rfl (fun ls hl => ?_)
    have L19 : ∀ (n : Nat) (L19_x3 : Int32), f_X8_mirrorEachOther_L19 moves lengths x1 x2 n L19_x3 = some X → ∀ (H : Heap) (locs : List Loc), mm_S G A s.heap w H locs → ∀ (ls : Array Slot), lv_has ls 4 [(0, .ref b), (1, .int x1), (2, .int x2), (3, .int L19_x3)] → W p l e ({ frames := 2, cells := 0, slots := 0, locals := 40 } : Room) s m args below meth c H locs 0 0 Q (F0 m 19 ls []) := by
      intro n
      induction n with
      | zero => intro L19_x3 hf; cases hf
      | succ n ih =>
        intro L19_x3 hf H locs hM ls hl
        rw [f_X8_mirrorEachOther_L19] at hf
        refine lv_iload_n hx hb dX8_mirrorEachOther_19 rfl (lv_at hl 3 rfl) ?_
        refine lv_aload_n hx hb dX8_mirrorEachOther_20 rfl (lv_at hl 0 rfl) ?_
        refine mm_get hC hM (k := 1) hp_this.1 rfl inAX8 (by decide) q1_115 rfl dX8_mirrorEachOther_21 ?_
        refine lv_iload_n hx hb dX8_mirrorEachOther_24 rfl (lv_at hl 1 rfl) ?_
        obtain ⟨hg25, hf⟩ := mm_gd hf
        refine mm_iald hC hM (hp_this.2.2) hg25 dX8_mirrorEachOther_25 ?_
        refine lv_icmp_ge (tgt := 55) hx hb dX8_mirrorEachOther_26 (by decide) (fun hcd => ?_) (fun hcd => ?_)
        · rw [if_pos hcd] at hf
          refine lv_iconst (v := 1) hx hb dX8_mirrorEachOther_55 (by decide) ?_
          cases hf
          exact hret hM dX8_mirrorEachOther_56 rfl ⟨rfl, rfl⟩
        · rw [if_neg hcd] at hf
          refine lv_aload_n hx hb dX8_mirrorEachOther_29 rfl (lv_at hl 0 rfl) ?_
          refine lv_iload_n hx hb dX8_mirrorEachOther_30 rfl (lv_at hl 1 rfl) ?_
          refine lv_iload_n hx hb dX8_mirrorEachOther_31 rfl (lv_at hl 3 rfl) ?_
          obtain ⟨q32, hq32, hf⟩ := mm_bd hf
          refine mm_Vi (rest := []) hC hM (c_X8_moveIn l hq32 hp_this) q2_225 q1_5 ykX8_moveIn q2_222 q2_223 q2_224 hp_this.1 rfl ⟨rfl, rfl⟩ ⟨Nat.le_of_ble_eq_true rfl, Nat.le_of_ble_eq_true rfl⟩ rfl hl.1 rfl (Nat.le_of_ble_eq_true rfl) dX8_mirrorEachOther_32 ⟨Nat.le_of_ble_eq_true rfl, Nat.le_of_ble_eq_true rfl⟩ (fun r w32 H locs hM hw => ?_)
          obtain ⟨hr, hw⟩ := hw
          rw [hr]
          rw [hw] at hM
          refine lv_aload_n hx hb dX8_mirrorEachOther_35 rfl (lv_at hl 0 rfl) ?_
          refine lv_iload_n hx hb dX8_mirrorEachOther_36 rfl (lv_at hl 2 rfl) ?_
          refine lv_iload_n hx hb dX8_mirrorEachOther_37 rfl (lv_at hl 3 rfl) ?_
          obtain ⟨q38, hq38, hf⟩ := mm_bd hf
          refine mm_Vi (rest := [.int q32]) hC hM (c_X8_moveIn l hq38 hp_this) q2_225 q1_5 ykX8_moveIn q2_222 q2_223 q2_224 hp_this.1 rfl ⟨rfl, rfl⟩ ⟨Nat.le_of_ble_eq_true rfl, Nat.le_of_ble_eq_true rfl⟩ rfl hl.1 rfl (Nat.le_of_ble_eq_true rfl) dX8_mirrorEachOther_38 ⟨Nat.le_of_ble_eq_true rfl, Nat.le_of_ble_eq_true rfl⟩ (fun r w38 H locs hM hw => ?_)
          obtain ⟨hr, hw⟩ := hw
          rw [hr]
          rw [hw] at hM
          obtain ⟨q41, hq41, hf⟩ := mm_bd hf
          refine mm_SNi (rest := [.int q32]) hC hM (c_X12_mirrored l hq41) q5_5 q1_1 ykX12_mirrored q5_3 q5_4 ⟨rfl, rfl⟩ ⟨Nat.le_of_ble_eq_true rfl, Nat.le_of_ble_eq_true rfl⟩ rfl hl.1 rfl (Nat.le_of_ble_eq_true rfl) dX8_mirrorEachOther_41 ⟨Nat.le_of_ble_eq_true rfl, Nat.le_of_ble_eq_true rfl⟩ (fun r w41 H locs hM hw => ?_)
          obtain ⟨hr, hw⟩ := hw
          rw [hr]
          rw [hw] at hM
          refine lv_icmp_eq (tgt := 49) hx hb dX8_mirrorEachOther_44 (by decide) (fun hcd => ?_) (fun hcd => ?_)
          · rw [if_pos hcd] at hf
            refine lv_iinc (v := (L19_x3 + 1)) (lv' := [(3, .int (L19_x3 + 1)), (0, .ref b), (1, .int x1), (2, .int x2)]) hx hb dX8_mirrorEachOther_49 hl (k := 3) rfl rfl (by decide) rfl (fun ls hl => ?_)
            refine lv_goto (tgt := 19) hx hb dX8_mirrorEachOther_52 (by decide) ?_
            exact ih _ hf _ _ hM _ (lv_sub hl [1, 2, 3, 0] rfl)
          · rw [if_neg hcd] at hf
            refine lv_iconst (v := 0) hx hb dX8_mirrorEachOther_47 (by decide) ?_
            cases hf
            exact hret hM dX8_mirrorEachOther_48 rfl ⟨rfl, rfl⟩
    exact L19 K _ hf _ _ hM _ (lv_sub hl [1, 2, 3, 0] rfl)
  · rw [if_neg hcd] at hf
    refine lv_iconst (v := 0) hx hb dX8_mirrorEachOther_15 (by decide) ?_
    cases hf
    exact hret hM dX8_mirrorEachOther_16 rfl ⟨rfl, rfl⟩
def f_X8_writeTo_L5 (moves : Nat → Int32) (lengths : Nat → Int32) (x2 : Int32) : Nat → (Int32) → (Int32) → (Nat → Int32) → (Int32) → Option ((Nat → Int32) × Int32)
  | 0, _, _, _, _ => none
  | n + 1, x3, x4, p1_signs, p1_length => mm_g (mm_ck x2 6) (if (lengths x2.toNatClampNeg) ≤ x4 then some (p1_signs, p1_length) else (f_X8_moveIn moves x2 x4).bind fun q20 => mm_g (mm_ck x2 6) (if (x4 + 1) = (lengths x2.toNatClampNeg) then (f_X12_letter q20).bind fun q58 => (f_X10_put p1_signs p1_length q58).bind fun q61 => (f_X10_putNumberAboveOne q61.2.1 q61.2.2 (x3 + 1)).bind fun q67 => f_X8_writeTo_L5 moves lengths x2 n 0 (x4 + 1) q67.1 q67.2 else (f_X8_moveIn moves x2 (x4 + 1)).bind fun q47 => if q47 = q20 then f_X8_writeTo_L5 moves lengths x2 n (x3 + 1) (x4 + 1) p1_signs p1_length else (f_X12_letter q20).bind fun q58 => (f_X10_put p1_signs p1_length q58).bind fun q61 => (f_X10_putNumberAboveOne q61.2.1 q61.2.2 (x3 + 1)).bind fun q67 => f_X8_writeTo_L5 moves lengths x2 n 0 (x4 + 1) q67.1 q67.2))
def f_X8_writeTo (K : Nat) (moves : Nat → Int32) (lengths : Nat → Int32) (p1_signs : Nat → Int32) (p1_length : Int32) (x2 : Int32) : Option ((Nat → Int32) × Int32) := (f_X8_writeTo_L5 moves lengths x2 K 0 0 p1_signs p1_length).bind fun q5 => some (q5.1, q5.2)
set_option maxHeartbeats 4000000 in
set_option maxRecDepth 100000 in
theorem c_X8_writeTo (l : Launch) {G : mm_G} {K : Nat} {w : va_W} {sz : Nat} {b : Nat} {b1 : Nat} {moves : Nat → Int32} {lengths : Nat → Int32} {p1_signs : Nat → Int32} {p1_length : Int32} {x2 : Int32} {X : (Nat → Int32) × Int32} (hf : f_X8_writeTo K moves lengths p1_signs p1_length x2 = some X) (hp_this : At8 G w b moves lengths) (hp_p1 : At10 G w b1 p1_signs p1_length) (hd0 : b + 3 ≤ b1 ∨ b1 + 2 ≤ b) : Met l yX8_writeTo (Cond.code yX8_writeTo cX8_writeTo 6 none :: gAll) ({ frames := 2, cells := 0, slots := 0, locals := 42 }) (va_Pc [.ref b, .ref b1, .int x2] (mm_Pre G w sz)) (mm_Qv G w sz (fun w' => At10 G w' b1 X.1 X.2 ∧ mm_fr w w' b1 (b1 + 2))) 0 0 (va_A w sz) := by
  refine mm_headV [.ref b, .ref b1, .int x2] (by decide +kernel) rfl (Nat.le_of_ble_eq_true rfl) ?_
  intro p e s m args below meth c A Q hsz hC hM hret hnm ls hl
  have hx := hC.1.1
  have hb := hC.1.2.1
  have hl : lv_has ls 6 [(0, .ref b), (1, .ref b1), (2, .int x2)] := hl
  have hF : mm_fr w w b1 (b1 + 2) := mm_fr.rf
  rw [f_X8_writeTo] at hf
  refine lv_iconst (v := 0) hx hb dX8_writeTo_0 (by decide) ?_
  refine lv_istore_n (lv' := [(3, .int 0), (0, .ref b), (1, .ref b1), (2, .int x2)]) hx hb dX8_writeTo_1 rfl hl (by decide) rfl (fun ls hl => ?_)
  refine lv_iconst (v := 0) hx hb dX8_writeTo_2 (by decide) ?_
  refine lv_istore (lv' := [(4, .int 0), (3, .int 0), (0, .ref b), (1, .ref b1), (2, .int x2)]) hx hb dX8_writeTo_3 hl (by decide) rfl (fun ls hl => ?_)
  have L5 : ∀ (n : Nat) (L5_x3 : Int32) (L5_x4 : Int32) (L5_p1_signs : Nat → Int32) (L5_p1_length : Int32) (X : (Nat → Int32) × Int32), f_X8_writeTo_L5 moves lengths x2 n L5_x3 L5_x4 L5_p1_signs L5_p1_length = some X → ∀ (L5_w : va_W) (H : Heap) (locs : List Loc), mm_S G A s.heap L5_w H locs → At8 G L5_w b moves lengths → At10 G L5_w b1 L5_p1_signs L5_p1_length → mm_fr w L5_w b1 (b1 + 2) → ∀ (ls : Array Slot), lv_has ls 6 [(0, .ref b), (1, .ref b1), (2, .int x2), (3, .int L5_x3), (4, .int L5_x4)] → (∀ (w9 : va_W) (H : Heap) (locs : List Loc), mm_S G A s.heap w9 H locs → At8 G w9 b moves lengths → At10 G w9 b1 X.1 X.2 → mm_fr w w9 b1 (b1 + 2) → ∀ (ls : Array Slot), lv_has ls 6 [] → W p l e ({ frames := 2, cells := 0, slots := 0, locals := 42 } : Room) s m args below meth c H locs 0 0 Q (F0 m 78 ls [])) → W p l e ({ frames := 2, cells := 0, slots := 0, locals := 42 } : Room) s m args below meth c H locs 0 0 Q (F0 m 5 ls []) := by
    intro n
    induction n with
    | zero => intro L5_x3 L5_x4 L5_p1_signs L5_p1_length X hf; cases hf
    | succ n ih =>
      intro L5_x3 L5_x4 L5_p1_signs L5_p1_length X hf L5_w H locs hM hp_this hp_p1 hF ls hl hk
      rw [f_X8_writeTo_L5] at hf
      refine lv_iload hx hb dX8_writeTo_5 (lv_at hl 4 rfl) ?_
      refine lv_aload_n hx hb dX8_writeTo_7 rfl (lv_at hl 0 rfl) ?_
      refine mm_get hC hM (k := 1) hp_this.1 rfl inAX8 (by decide) q1_115 rfl dX8_writeTo_8 ?_
      refine lv_iload_n hx hb dX8_writeTo_11 rfl (lv_at hl 2 rfl) ?_
      obtain ⟨hg12, hf⟩ := mm_gd hf
      refine mm_iald hC hM (hp_this.2.2) hg12 dX8_writeTo_12 ?_
      refine lv_icmp_ge (tgt := 78) hx hb dX8_writeTo_13 (by decide) (fun hcd => ?_) (fun hcd => ?_)
      · rw [if_pos hcd] at hf
        cases hf
        exact hk _ _ _ hM hp_this hp_p1 hF _ (lv_sub hl [] rfl)
      · rw [if_neg hcd] at hf
        refine lv_aload_n hx hb dX8_writeTo_16 rfl (lv_at hl 0 rfl) ?_
        refine lv_iload_n hx hb dX8_writeTo_17 rfl (lv_at hl 2 rfl) ?_
        refine lv_iload hx hb dX8_writeTo_18 (lv_at hl 4 rfl) ?_
        obtain ⟨q20, hq20, hf⟩ := mm_bd hf
        refine mm_Vi (rest := []) hC hM (c_X8_moveIn l hq20 hp_this) q2_225 q1_5 ykX8_moveIn q2_222 q2_223 q2_224 hp_this.1 rfl ⟨rfl, rfl⟩ ⟨Nat.le_of_ble_eq_true rfl, Nat.le_of_ble_eq_true rfl⟩ rfl hl.1 rfl (Nat.le_of_ble_eq_true rfl) dX8_writeTo_20 ⟨Nat.le_of_ble_eq_true rfl, Nat.le_of_ble_eq_true rfl⟩ (fun r w20 H locs hM hw => ?_)
        obtain ⟨hr, hw⟩ := hw
        rw [hr]
        rw [hw] at hM
        refine lv_istore (lv' := [(5, .int q20), (0, .ref b), (1, .ref b1), (2, .int x2), (3, .int L5_x3), (4, .int L5_x4)]) hx hb dX8_writeTo_23 hl (by decide) rfl (fun ls hl => ?_)
        refine lv_iinc (v := (L5_x3 + 1)) (lv' := [(3, .int (L5_x3 + 1)), (5, .int q20), (0, .ref b), (1, .ref b1), (2, .int x2), (4, .int L5_x4)]) hx hb dX8_writeTo_25 hl (k := 4) rfl rfl (by decide) rfl (fun ls hl => ?_)
        refine lv_iload hx hb dX8_writeTo_28 (lv_at hl 5 rfl) ?_
        refine lv_iconst (v := 1) hx hb dX8_writeTo_30 (by decide) ?_
        refine lv_iadd hx hb dX8_writeTo_31 ?_
        refine lv_aload_n hx hb dX8_writeTo_32 rfl (lv_at hl 2 rfl) ?_
        refine mm_get hC hM (k := 1) hp_this.1 rfl inAX8 (by decide) q1_115 rfl dX8_writeTo_33 ?_
        refine lv_iload_n hx hb dX8_writeTo_36 rfl (lv_at hl 4 rfl) ?_
        obtain ⟨hg37, hf⟩ := mm_gd hf
        refine mm_iald hC hM (hp_this.2.2) hg37 dX8_writeTo_37 ?_
        refine lv_icmp_eq (tgt := 55) hx hb dX8_writeTo_38 (by decide) (fun hcd => ?_) (fun hcd => ?_)
        · rw [if_pos hcd] at hf
          refine lv_aload_n hx hb dX8_writeTo_55 rfl (lv_at hl 3 rfl) ?_
          refine lv_iload hx hb dX8_writeTo_56 (lv_at hl 1 rfl) ?_
          obtain ⟨q58, hq58, hf⟩ := mm_bd hf
          refine mm_SNi (rest := [.ref b1]) hC hM (c_X12_letter l hq58) q5_57 q1_1 ykX12_letter q6_177 q5_56 ⟨rfl, rfl⟩ ⟨Nat.le_of_ble_eq_true rfl, Nat.le_of_ble_eq_true rfl⟩ rfl hl.1 rfl (Nat.le_of_ble_eq_true rfl) dX8_writeTo_58 ⟨Nat.le_of_ble_eq_true rfl, Nat.le_of_ble_eq_true rfl⟩ (fun r w58 H locs hM hw => ?_)
          obtain ⟨hr, hw⟩ := hw
          rw [hr]
          rw [hw] at hM
          obtain ⟨q61, hq61, hf⟩ := mm_bd hf
          refine mm_Vi (rest := []) hC hM (c_X10_put l hq61 hp_p1) q6_4 q1_11 ykX10_put q6_178 q6_2 q6_3 hp_p1.1 rfl ⟨rfl, rfl⟩ ⟨Nat.le_of_ble_eq_true rfl, Nat.le_of_ble_eq_true rfl⟩ rfl hl.1 rfl (Nat.le_of_ble_eq_true rfl) dX8_writeTo_61 ⟨Nat.le_of_ble_eq_true rfl, Nat.le_of_ble_eq_true rfl⟩ (fun r w61 H locs hM hw => ?_)
          obtain ⟨hr, hn_this, hfr⟩ := hw
          rw [hr]
          have hp_this := hp_this.keep hfr (by omega)
          have hp_p1 := hn_this
          have hF := hF.tr (hfr.wide (by omega) (by omega))
          refine lv_pop hx hb dX8_writeTo_64 rfl ?_
          refine lv_aload_n hx hb dX8_writeTo_65 rfl (lv_at hl 3 rfl) ?_
          refine lv_iload_n hx hb dX8_writeTo_66 rfl (lv_at hl 0 rfl) ?_
          obtain ⟨q67, hq67, hf⟩ := mm_bd hf
          refine mm_Vv (rest := []) hC hM (c_X10_putNumberAboveOne l hq67 hp_p1) q6_182 q1_11 ykX10_putNumberAboveOne q6_179 q6_180 q6_181 hp_p1.1 rfl ⟨rfl, rfl⟩ ⟨Nat.le_of_ble_eq_true rfl, Nat.le_of_ble_eq_true rfl⟩ rfl hl.1 rfl (Nat.le_of_ble_eq_true rfl) dX8_writeTo_67 ⟨Nat.le_of_ble_eq_true rfl, Nat.le_of_ble_eq_true rfl⟩ (fun w67 H locs hM hw => ?_)
          obtain ⟨hn_this, hfr⟩ := hw
          have hp_this := hp_this.keep hfr (by omega)
          have hp_p1 := hn_this
          have hF := hF.tr (hfr.wide (by omega) (by omega))
          refine lv_iconst (v := 0) hx hb dX8_writeTo_70 (by decide) ?_
          refine lv_istore_n (lv' := [(3, .int 0), (5, .int q20), (0, .ref b), (1, .ref b1), (2, .int x2), (4, .int L5_x4)]) hx hb dX8_writeTo_71 rfl hl (by decide) rfl (fun ls hl => ?_)
          refine lv_iinc (v := (L5_x4 + 1)) (lv' := [(4, .int (L5_x4 + 1)), (3, .int 0), (5, .int q20), (0, .ref b), (1, .ref b1), (2, .int x2)]) hx hb dX8_writeTo_72 hl (k := 5) rfl rfl (by decide) rfl (fun ls hl => ?_)
          refine lv_goto (tgt := 5) hx hb dX8_writeTo_75 (by decide) ?_
          exact ih _ _ _ _ _ hf _ _ _ hM hp_this hp_p1 hF _ (lv_sub hl [3, 4, 5, 1, 0] rfl) hk
        · rw [if_neg hcd] at hf
          refine lv_aload_n hx hb dX8_writeTo_41 rfl (lv_at hl 2 rfl) ?_
          refine lv_iload_n hx hb dX8_writeTo_42 rfl (lv_at hl 4 rfl) ?_
          refine lv_iload hx hb dX8_writeTo_43 (lv_at hl 5 rfl) ?_
          refine lv_iconst (v := 1) hx hb dX8_writeTo_45 (by decide) ?_
          refine lv_iadd hx hb dX8_writeTo_46 ?_
          obtain ⟨q47, hq47, hf⟩ := mm_bd hf
          refine mm_Vi (rest := []) hC hM (c_X8_moveIn l hq47 hp_this) q2_225 q1_5 ykX8_moveIn q2_222 q2_223 q2_224 hp_this.1 rfl ⟨rfl, rfl⟩ ⟨Nat.le_of_ble_eq_true rfl, Nat.le_of_ble_eq_true rfl⟩ rfl hl.1 rfl (Nat.le_of_ble_eq_true rfl) dX8_writeTo_47 ⟨Nat.le_of_ble_eq_true rfl, Nat.le_of_ble_eq_true rfl⟩ (fun r w47 H locs hM hw => ?_)
          obtain ⟨hr, hw⟩ := hw
          rw [hr]
          rw [hw] at hM
          refine lv_iload hx hb dX8_writeTo_50 (lv_at hl 1 rfl) ?_
          refine lv_icmp_eq (tgt := 72) hx hb dX8_writeTo_52 (by decide) (fun hcd => ?_) (fun hcd => ?_)
          · rw [if_pos hcd] at hf
            refine lv_iinc (v := (L5_x4 + 1)) (lv' := [(4, .int (L5_x4 + 1)), (3, .int (L5_x3 + 1)), (5, .int q20), (0, .ref b), (1, .ref b1), (2, .int x2)]) hx hb dX8_writeTo_72 hl (k := 5) rfl rfl (by decide) rfl (fun ls hl => ?_)
            refine lv_goto (tgt := 5) hx hb dX8_writeTo_75 (by decide) ?_
            exact ih _ _ _ _ _ hf _ _ _ hM hp_this hp_p1 hF _ (lv_sub hl [3, 4, 5, 1, 0] rfl) hk
          · rw [if_neg hcd] at hf
            refine lv_aload_n hx hb dX8_writeTo_55 rfl (lv_at hl 3 rfl) ?_
            refine lv_iload hx hb dX8_writeTo_56 (lv_at hl 1 rfl) ?_
            obtain ⟨q58, hq58, hf⟩ := mm_bd hf
            refine mm_SNi (rest := [.ref b1]) hC hM (c_X12_letter l hq58) q5_57 q1_1 ykX12_letter q6_177 q5_56 ⟨rfl, rfl⟩ ⟨Nat.le_of_ble_eq_true rfl, Nat.le_of_ble_eq_true rfl⟩ rfl hl.1 rfl (Nat.le_of_ble_eq_true rfl) dX8_writeTo_58 ⟨Nat.le_of_ble_eq_true rfl, Nat.le_of_ble_eq_true rfl⟩ (fun r w58 H locs hM hw => ?_)
            obtain ⟨hr, hw⟩ := hw
            rw [hr]
            rw [hw] at hM
            obtain ⟨q61, hq61, hf⟩ := mm_bd hf
            refine mm_Vi (rest := []) hC hM (c_X10_put l hq61 hp_p1) q6_4 q1_11 ykX10_put q6_178 q6_2 q6_3 hp_p1.1 rfl ⟨rfl, rfl⟩ ⟨Nat.le_of_ble_eq_true rfl, Nat.le_of_ble_eq_true rfl⟩ rfl hl.1 rfl (Nat.le_of_ble_eq_true rfl) dX8_writeTo_61 ⟨Nat.le_of_ble_eq_true rfl, Nat.le_of_ble_eq_true rfl⟩ (fun r w61 H locs hM hw => ?_)
            obtain ⟨hr, hn_this, hfr⟩ := hw
            rw [hr]
            have hp_this := hp_this.keep hfr (by omega)
            have hp_p1 := hn_this
            have hF := hF.tr (hfr.wide (by omega) (by omega))
            refine lv_pop hx hb dX8_writeTo_64 rfl ?_
            refine lv_aload_n hx hb dX8_writeTo_65 rfl (lv_at hl 3 rfl) ?_
            refine lv_iload_n hx hb dX8_writeTo_66 rfl (lv_at hl 0 rfl) ?_
            obtain ⟨q67, hq67, hf⟩ := mm_bd hf
            refine mm_Vv (rest := []) hC hM (c_X10_putNumberAboveOne l hq67 hp_p1) q6_182 q1_11 ykX10_putNumberAboveOne q6_179 q6_180 q6_181 hp_p1.1 rfl ⟨rfl, rfl⟩ ⟨Nat.le_of_ble_eq_true rfl, Nat.le_of_ble_eq_true rfl⟩ rfl hl.1 rfl (Nat.le_of_ble_eq_true rfl) dX8_writeTo_67 ⟨Nat.le_of_ble_eq_true rfl, Nat.le_of_ble_eq_true rfl⟩ (fun w67 H locs hM hw => ?_)
            obtain ⟨hn_this, hfr⟩ := hw
            have hp_this := hp_this.keep hfr (by omega)
            have hp_p1 := hn_this
            have hF := hF.tr (hfr.wide (by omega) (by omega))
            refine lv_iconst (v := 0) hx hb dX8_writeTo_70 (by decide) ?_
            refine lv_istore_n (lv' := [(3, .int 0), (5, .int q20), (0, .ref b), (1, .ref b1), (2, .int x2), (4, .int L5_x4)]) hx hb dX8_writeTo_71 rfl hl (by decide) rfl (fun ls hl => ?_)
            refine lv_iinc (v := (L5_x4 + 1)) (lv' := [(4, .int (L5_x4 + 1)), (3, .int 0), (5, .int q20), (0, .ref b), (1, .ref b1), (2, .int x2)]) hx hb dX8_writeTo_72 hl (k := 5) rfl rfl (by decide) rfl (fun ls hl => ?_)
            refine lv_goto (tgt := 5) hx hb dX8_writeTo_75 (by decide) ?_
            exact ih _ _ _ _ _ hf _ _ _ hM hp_this hp_p1 hF _ (lv_sub hl [3, 4, 5, 1, 0] rfl) hk
  obtain ⟨q5, hq5, hf⟩ := mm_bd hf
  refine L5 K _ _ _ _ _ hq5 _ _ _ hM hp_this hp_p1 hF _ (lv_sub hl [2, 3, 4, 1, 0] rfl) (fun w5 H locs hM hp_this hp_p1 hF ls hl => ?_)
  cases hf
  exact hret hM dX8_writeTo_78 ⟨hp_p1, hF⟩
