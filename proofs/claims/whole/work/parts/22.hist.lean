def f_X4_note (slots : Nat → mm_MV) (free : Int32) (p1_reeds_states : Nat → Int32) (p1_reeds_count : Int32) (p1_reeds_broken : Int32) (p1_fleet_numbers : Nat → Int32) (p1_fleet_cells : Nat → Int32) (p1_fleet_fares : Nat → Int32) (p1_fleet_count : Int32) (p1_fleet_nextNumber : Int32) (p1_fleet_total : Int32) (p1_fleet_removedFares : Int32) (p1_fleet_meetings : Int32) (p1_plans_moves : Nat → Int32) (p1_plans_lengths : Nat → Int32) (p1_landings_cells : Nat → Int32) (p1_landings_count : Int32) (p1_fogSide : Int32) : Option (Nat → mm_MV) := mm_g (mm_ck free 9) ((f_X6_copyFrom ((slots free.toNatClampNeg).1) ((slots free.toNatClampNeg).2.2.2.1) ((slots free.toNatClampNeg).2.2.2.2.1) ((slots free.toNatClampNeg).2.2.2.2.2.1) ((slots free.toNatClampNeg).2.2.2.2.2.2.2.2.2.2.2.1) ((slots free.toNatClampNeg).2.2.2.2.2.2.2.2.2.2.2.2.1) ((slots free.toNatClampNeg).2.2.2.2.2.2.2.2.2.2.2.2.2.1) p1_reeds_states p1_reeds_count p1_reeds_broken p1_fleet_numbers p1_fleet_cells p1_fleet_fares p1_fleet_count p1_fleet_nextNumber p1_fleet_total p1_fleet_removedFares p1_fleet_meetings p1_plans_moves p1_plans_lengths p1_landings_cells p1_landings_count p1_fogSide).bind fun q10 => some (va_up slots free.toNatClampNeg q10))
set_option maxHeartbeats 4000000 in
set_option maxRecDepth 100000 in
theorem c_X4_note (l : Launch) {G : mm_G} {w : va_W} {sz : Nat} {b : Nat} {b1 : Nat} {slots : Nat → mm_MV} {free : Int32} {count : Int32} {p1_reeds_states : Nat → Int32} {p1_reeds_count : Int32} {p1_reeds_broken : Int32} {p1_fleet_numbers : Nat → Int32} {p1_fleet_cells : Nat → Int32} {p1_fleet_fares : Nat → Int32} {p1_fleet_count : Int32} {p1_fleet_nextNumber : Int32} {p1_fleet_total : Int32} {p1_fleet_removedFares : Int32} {p1_fleet_meetings : Int32} {p1_plans_moves : Nat → Int32} {p1_plans_lengths : Nat → Int32} {p1_landings_cells : Nat → Int32} {p1_landings_count : Int32} {p1_fogSide : Int32} {X : Nat → mm_MV} (hf : f_X4_note slots free p1_reeds_states p1_reeds_count p1_reeds_broken p1_fleet_numbers p1_fleet_cells p1_fleet_fares p1_fleet_count p1_fleet_nextNumber p1_fleet_total p1_fleet_removedFares p1_fleet_meetings p1_plans_moves p1_plans_lengths p1_landings_cells p1_landings_count p1_fogSide = some X) (hp_this : At4 G w b slots free count) (hp_p1 : At6 G w b1 p1_reeds_states p1_reeds_count p1_reeds_broken p1_fleet_numbers p1_fleet_cells p1_fleet_fares p1_fleet_count p1_fleet_nextNumber p1_fleet_total p1_fleet_removedFares p1_fleet_meetings p1_plans_moves p1_plans_lengths p1_landings_cells p1_landings_count p1_fogSide) (hd0 : b + 110 ≤ b1 ∨ b1 + 12 ≤ b) : Met l yX4_note (Cond.code yX4_note cX4_note 2 none :: gAll) ({ frames := 3, cells := 0, slots := 0, locals := 102 }) (va_Pc [.ref b, .ref b1] (mm_Pre G w sz)) (mm_Qv G w sz (fun w' => At4 G w' b X free count ∧ mm_fr w w' b (b + 110))) 0 0 (va_A w sz) := by
  refine mm_headV [.ref b, .ref b1] (by decide +kernel) rfl (Nat.le_of_ble_eq_true rfl) ?_
  intro p e s m args below meth c A Q hsz hC hM hret hnm ls hl
  have hx := hC.1.1
  have hb := hC.1.2.1
  have hl : lv_has ls 2 [(0, .ref b), (1, .ref b1)] := hl
  have hF : mm_fr w w b (b + 110) := mm_fr.rf
  rw [f_X4_note] at hf
  obtain ⟨hg8, hf⟩ := mm_gd hf
  have hlt : free.toNatClampNeg < 9 := Nat.not_le.mp (fun z => hg8 (Or.inr z))
  obtain ⟨q10, hq10, hf⟩ := mm_bd hf
  cases hf
  refine lv_aload_n hx hb dX4_note_0 rfl (lv_at hl 0 rfl) ?_
  refine mm_get hC hM (k := 0) hp_this.1 rfl inAX4 (by decide) q1_169 rfl dX4_note_1 ?_
  refine lv_aload_n hx hb dX4_note_4 rfl (lv_at hl 0 rfl) ?_
  refine mm_get hC hM (k := 1) hp_this.1 rfl inAX4 (by decide) q1_170 rfl dX4_note_5 ?_
  refine mm_aald hC hM hp_this.2.1 hg8 dX4_note_8 ?_
  refine mm_topr (v2 := .ref (b + 2 + 12 * free.toNatClampNeg)) (by simp [va_rf, hlt]) ?_
  refine lv_aload_n hx hb dX4_note_9 rfl (lv_at hl 1 rfl) ?_
  refine mm_Vv (rest := []) hC hM (c_X6_copyFrom l hq10 (hp_this.2.2 _ hlt) hp_p1 (by omega)) q3_67 q1_2 ykX6_copyFrom q3_179 q3_65 q3_66 (hp_this.2.2 _ hlt).1 rfl ⟨rfl, rfl⟩ ⟨Nat.le_of_ble_eq_true rfl, Nat.le_of_ble_eq_true rfl⟩ rfl hl.1 rfl (Nat.le_of_ble_eq_true rfl) dX4_note_10 ⟨Nat.le_of_ble_eq_true rfl, Nat.le_of_ble_eq_true rfl⟩ (fun w10 H locs hM hw => ?_)
  obtain ⟨hn, hfr⟩ := hw
  have hres : At4 G w10 b (va_up slots free.toNatClampNeg q10) free count := ⟨hfr.keep hp_this.1 (by omega), hfr.keep hp_this.2.1 (by omega), fun j hj => by
    by_cases hji : j = free.toNatClampNeg
    · subst hji; rw [va_up_self]; exact hn
    · rw [va_up_ne _ _ hji]; exact (hp_this.2.2 j hj).keep hfr (by omega)⟩
  exact hret hM dX4_note_13 ⟨hres, hfr.wide (by omega) (by omega)⟩
def f_X4_putBack (slots : Nat → mm_MV) (free : Int32) (p1_reeds_states : Nat → Int32) (p1_fleet_numbers : Nat → Int32) (p1_fleet_cells : Nat → Int32) (p1_fleet_fares : Nat → Int32) (p1_plans_moves : Nat → Int32) (p1_plans_lengths : Nat → Int32) (p1_landings_cells : Nat → Int32) : Option (mm_MV) := mm_g (mm_ck free 9) (f_X6_copyFrom p1_reeds_states p1_fleet_numbers p1_fleet_cells p1_fleet_fares p1_plans_moves p1_plans_lengths p1_landings_cells ((slots free.toNatClampNeg).1) ((slots free.toNatClampNeg).2.1) ((slots free.toNatClampNeg).2.2.1) ((slots free.toNatClampNeg).2.2.2.1) ((slots free.toNatClampNeg).2.2.2.2.1) ((slots free.toNatClampNeg).2.2.2.2.2.1) ((slots free.toNatClampNeg).2.2.2.2.2.2.1) ((slots free.toNatClampNeg).2.2.2.2.2.2.2.1) ((slots free.toNatClampNeg).2.2.2.2.2.2.2.2.1) ((slots free.toNatClampNeg).2.2.2.2.2.2.2.2.2.1) ((slots free.toNatClampNeg).2.2.2.2.2.2.2.2.2.2.1) ((slots free.toNatClampNeg).2.2.2.2.2.2.2.2.2.2.2.1) ((slots free.toNatClampNeg).2.2.2.2.2.2.2.2.2.2.2.2.1) ((slots free.toNatClampNeg).2.2.2.2.2.2.2.2.2.2.2.2.2.1) ((slots free.toNatClampNeg).2.2.2.2.2.2.2.2.2.2.2.2.2.2.1) ((slots free.toNatClampNeg).2.2.2.2.2.2.2.2.2.2.2.2.2.2.2))
set_option maxHeartbeats 4000000 in
set_option maxRecDepth 100000 in
theorem c_X4_putBack (l : Launch) {G : mm_G} {w : va_W} {sz : Nat} {b : Nat} {b1 : Nat} {slots : Nat → mm_MV} {free : Int32} {count : Int32} {p1_reeds_states : Nat → Int32} {p1_reeds_count : Int32} {p1_reeds_broken : Int32} {p1_fleet_numbers : Nat → Int32} {p1_fleet_cells : Nat → Int32} {p1_fleet_fares : Nat → Int32} {p1_fleet_count : Int32} {p1_fleet_nextNumber : Int32} {p1_fleet_total : Int32} {p1_fleet_removedFares : Int32} {p1_fleet_meetings : Int32} {p1_plans_moves : Nat → Int32} {p1_plans_lengths : Nat → Int32} {p1_landings_cells : Nat → Int32} {p1_landings_count : Int32} {p1_fogSide : Int32} {X : mm_MV} (hf : f_X4_putBack slots free p1_reeds_states p1_fleet_numbers p1_fleet_cells p1_fleet_fares p1_plans_moves p1_plans_lengths p1_landings_cells = some X) (hp_this : At4 G w b slots free count) (hp_p1 : At6 G w b1 p1_reeds_states p1_reeds_count p1_reeds_broken p1_fleet_numbers p1_fleet_cells p1_fleet_fares p1_fleet_count p1_fleet_nextNumber p1_fleet_total p1_fleet_removedFares p1_fleet_meetings p1_plans_moves p1_plans_lengths p1_landings_cells p1_landings_count p1_fogSide) (hd0 : b + 110 ≤ b1 ∨ b1 + 12 ≤ b) : Met l yX4_putBack (Cond.code yX4_putBack cX4_putBack 2 none :: gAll) ({ frames := 3, cells := 0, slots := 0, locals := 102 }) (va_Pc [.ref b, .ref b1] (mm_Pre G w sz)) (mm_Qv G w sz (fun w' => At6 G w' b1 X.1 X.2.1 X.2.2.1 X.2.2.2.1 X.2.2.2.2.1 X.2.2.2.2.2.1 X.2.2.2.2.2.2.1 X.2.2.2.2.2.2.2.1 X.2.2.2.2.2.2.2.2.1 X.2.2.2.2.2.2.2.2.2.1 X.2.2.2.2.2.2.2.2.2.2.1 X.2.2.2.2.2.2.2.2.2.2.2.1 X.2.2.2.2.2.2.2.2.2.2.2.2.1 X.2.2.2.2.2.2.2.2.2.2.2.2.2.1 X.2.2.2.2.2.2.2.2.2.2.2.2.2.2.1 X.2.2.2.2.2.2.2.2.2.2.2.2.2.2.2 ∧ mm_fr w w' b1 (b1 + 12))) 0 0 (va_A w sz) := by
  refine mm_headV [.ref b, .ref b1] (by decide +kernel) rfl (Nat.le_of_ble_eq_true rfl) ?_
  intro p e s m args below meth c A Q hsz hC hM hret hnm ls hl
  have hx := hC.1.1
  have hb := hC.1.2.1
  have hl : lv_has ls 2 [(0, .ref b), (1, .ref b1)] := hl
  have hF : mm_fr w w b1 (b1 + 12) := mm_fr.rf
  rw [f_X4_putBack] at hf
  obtain ⟨hg8, hf⟩ := mm_gd hf
  have hlt : free.toNatClampNeg < 9 := Nat.not_le.mp (fun z => hg8 (Or.inr z))
  refine lv_aload_n hx hb dX4_putBack_0 rfl (lv_at hl 1 rfl) ?_
  refine lv_aload_n hx hb dX4_putBack_1 rfl (lv_at hl 0 rfl) ?_
  refine mm_get hC hM (k := 0) hp_this.1 rfl inAX4 (by decide) q1_169 rfl dX4_putBack_2 ?_
  refine lv_aload_n hx hb dX4_putBack_5 rfl (lv_at hl 0 rfl) ?_
  refine mm_get hC hM (k := 1) hp_this.1 rfl inAX4 (by decide) q1_170 rfl dX4_putBack_6 ?_
  refine mm_aald hC hM hp_this.2.1 hg8 dX4_putBack_9 ?_
  refine mm_topr (v2 := .ref (b + 2 + 12 * free.toNatClampNeg)) (by simp [va_rf, hlt]) ?_
  refine mm_Vv (rest := []) hC hM (c_X6_copyFrom l hf hp_p1 (hp_this.2.2 _ hlt) (by omega)) q3_67 q1_2 ykX6_copyFrom q3_179 q3_65 q3_66 hp_p1.1 rfl ⟨rfl, rfl⟩ ⟨Nat.le_of_ble_eq_true rfl, Nat.le_of_ble_eq_true rfl⟩ rfl hl.1 rfl (Nat.le_of_ble_eq_true rfl) dX4_putBack_10 ⟨Nat.le_of_ble_eq_true rfl, Nat.le_of_ble_eq_true rfl⟩ (fun w10 H locs hM hw => ?_)
  obtain ⟨hn, hfr⟩ := hw
  exact hret hM dX4_putBack_13 ⟨hn, hfr⟩
def f_X4_takeBack (slots : Nat → mm_MV) (free : Int32) (count : Int32) (p1_reeds_states : Nat → Int32) (p1_fleet_numbers : Nat → Int32) (p1_fleet_cells : Nat → Int32) (p1_fleet_fares : Nat → Int32) (p1_plans_moves : Nat → Int32) (p1_plans_lengths : Nat → Int32) (p1_landings_cells : Nat → Int32) : Option (Int32 × Int32 × mm_MV) := mm_g (mm_ck (((free + 9) - 1) - ((free + 9) - 1) / 9 * 9) 9) ((f_X6_copyFrom p1_reeds_states p1_fleet_numbers p1_fleet_cells p1_fleet_fares p1_plans_moves p1_plans_lengths p1_landings_cells ((slots (((free + 9) - 1) - ((free + 9) - 1) / 9 * 9).toNatClampNeg).1) ((slots (((free + 9) - 1) - ((free + 9) - 1) / 9 * 9).toNatClampNeg).2.1) ((slots (((free + 9) - 1) - ((free + 9) - 1) / 9 * 9).toNatClampNeg).2.2.1) ((slots (((free + 9) - 1) - ((free + 9) - 1) / 9 * 9).toNatClampNeg).2.2.2.1) ((slots (((free + 9) - 1) - ((free + 9) - 1) / 9 * 9).toNatClampNeg).2.2.2.2.1) ((slots (((free + 9) - 1) - ((free + 9) - 1) / 9 * 9).toNatClampNeg).2.2.2.2.2.1) ((slots (((free + 9) - 1) - ((free + 9) - 1) / 9 * 9).toNatClampNeg).2.2.2.2.2.2.1) ((slots (((free + 9) - 1) - ((free + 9) - 1) / 9 * 9).toNatClampNeg).2.2.2.2.2.2.2.1) ((slots (((free + 9) - 1) - ((free + 9) - 1) / 9 * 9).toNatClampNeg).2.2.2.2.2.2.2.2.1) ((slots (((free + 9) - 1) - ((free + 9) - 1) / 9 * 9).toNatClampNeg).2.2.2.2.2.2.2.2.2.1) ((slots (((free + 9) - 1) - ((free + 9) - 1) / 9 * 9).toNatClampNeg).2.2.2.2.2.2.2.2.2.2.1) ((slots (((free + 9) - 1) - ((free + 9) - 1) / 9 * 9).toNatClampNeg).2.2.2.2.2.2.2.2.2.2.2.1) ((slots (((free + 9) - 1) - ((free + 9) - 1) / 9 * 9).toNatClampNeg).2.2.2.2.2.2.2.2.2.2.2.2.1) ((slots (((free + 9) - 1) - ((free + 9) - 1) / 9 * 9).toNatClampNeg).2.2.2.2.2.2.2.2.2.2.2.2.2.1) ((slots (((free + 9) - 1) - ((free + 9) - 1) / 9 * 9).toNatClampNeg).2.2.2.2.2.2.2.2.2.2.2.2.2.2.1) ((slots (((free + 9) - 1) - ((free + 9) - 1) / 9 * 9).toNatClampNeg).2.2.2.2.2.2.2.2.2.2.2.2.2.2.2)).bind fun q36 => some ((((free + 9) - 1) - ((free + 9) - 1) / 9 * 9), count - 1, q36))
set_option maxHeartbeats 4000000 in
set_option maxRecDepth 100000 in
theorem c_X4_takeBack (l : Launch) {G : mm_G} {w : va_W} {sz : Nat} {b : Nat} {b1 : Nat} {slots : Nat → mm_MV} {free : Int32} {count : Int32} {p1_reeds_states : Nat → Int32} {p1_reeds_count : Int32} {p1_reeds_broken : Int32} {p1_fleet_numbers : Nat → Int32} {p1_fleet_cells : Nat → Int32} {p1_fleet_fares : Nat → Int32} {p1_fleet_count : Int32} {p1_fleet_nextNumber : Int32} {p1_fleet_total : Int32} {p1_fleet_removedFares : Int32} {p1_fleet_meetings : Int32} {p1_plans_moves : Nat → Int32} {p1_plans_lengths : Nat → Int32} {p1_landings_cells : Nat → Int32} {p1_landings_count : Int32} {p1_fogSide : Int32} {X : Int32 × Int32 × mm_MV} (hf : f_X4_takeBack slots free count p1_reeds_states p1_fleet_numbers p1_fleet_cells p1_fleet_fares p1_plans_moves p1_plans_lengths p1_landings_cells = some X) (hp_this : At4 G w b slots free count) (hp_p1 : At6 G w b1 p1_reeds_states p1_reeds_count p1_reeds_broken p1_fleet_numbers p1_fleet_cells p1_fleet_fares p1_fleet_count p1_fleet_nextNumber p1_fleet_total p1_fleet_removedFares p1_fleet_meetings p1_plans_moves p1_plans_lengths p1_landings_cells p1_landings_count p1_fogSide) (hd0 : b + 110 ≤ b1 ∨ b1 + 12 ≤ b) : Met l yX4_takeBack (Cond.code yX4_takeBack cX4_takeBack 2 none :: gAll) ({ frames := 3, cells := 0, slots := 0, locals := 102 }) (va_Pc [.ref b, .ref b1] (mm_Pre G w sz)) (mm_Qv G w sz (fun w' => At4 G w' b slots X.1 X.2.1 ∧ At6 G w' b1 X.2.2.1 X.2.2.2.1 X.2.2.2.2.1 X.2.2.2.2.2.1 X.2.2.2.2.2.2.1 X.2.2.2.2.2.2.2.1 X.2.2.2.2.2.2.2.2.1 X.2.2.2.2.2.2.2.2.2.1 X.2.2.2.2.2.2.2.2.2.2.1 X.2.2.2.2.2.2.2.2.2.2.2.1 X.2.2.2.2.2.2.2.2.2.2.2.2.1 X.2.2.2.2.2.2.2.2.2.2.2.2.2.1 X.2.2.2.2.2.2.2.2.2.2.2.2.2.2.1 X.2.2.2.2.2.2.2.2.2.2.2.2.2.2.2.1 X.2.2.2.2.2.2.2.2.2.2.2.2.2.2.2.2.1 X.2.2.2.2.2.2.2.2.2.2.2.2.2.2.2.2.2 ∧ mm_fr2 w w' b (b + 110) b1 (b1 + 12))) 0 0 (va_A w sz) := by
  refine mm_headV [.ref b, .ref b1] (by decide +kernel) rfl (Nat.le_of_ble_eq_true rfl) ?_
  intro p e s m args below meth c A Q hsz hC hM hret hnm ls hl
  have hx := hC.1.1
  have hb := hC.1.2.1
  have hl : lv_has ls 2 [(0, .ref b), (1, .ref b1)] := hl
  have hF : mm_fr2 w w b (b + 110) b1 (b1 + 12) := mm_fr2.rf
  rw [f_X4_takeBack] at hf
  obtain ⟨hg8, hf⟩ := mm_gd hf
  have hlt : (((free + 9) - 1) - ((free + 9) - 1) / 9 * 9).toNatClampNeg < 9 := Nat.not_le.mp (fun z => hg8 (Or.inr z))
  obtain ⟨q36, hq36, hf⟩ := mm_bd hf
  cases hf
  refine lv_aload_n hx hb dX4_takeBack_0 rfl (lv_at hl 0 rfl) ?_
  refine lv_aload_n hx hb dX4_takeBack_1 rfl (lv_at hl 0 rfl) ?_
  refine mm_get hC hM (k := 1) hp_this.1 rfl inAX4 (by decide) q1_170 rfl dX4_takeBack_2 ?_
  refine lv_bipush (v := 9) hx hb dX4_takeBack_5 (by decide) ?_
  refine lv_iadd hx hb dX4_takeBack_7 ?_
  refine lv_iconst (v := 1) hx hb dX4_takeBack_8 (by decide) ?_
  refine lv_isub hx hb dX4_takeBack_9 ?_
  refine lv_bipush (v := 9) hx hb dX4_takeBack_10 (by decide) ?_
  refine lv_irem hx hb dX4_takeBack_12 (by decide) ?_
  refine mm_put hC hM (k := 1) tyX4 hp_this.1 rfl inAX4 tyX4_ok nmX4 (by decide) q1_170 rfl rfl rfl rfl (Nat.le_of_ble_eq_true rfl) dX4_takeBack_13 (fun w13 H locs hM hm => ?_)
  have hp_this : At4 G w13 b slots (((free + 9) - 1) - ((free + 9) - 1) / 9 * 9) count := ⟨hm.1, hm.keep (hp_this.2.1) (by omega), fun j hj => (hp_this.2.2 j hj).up hm (by omega)⟩
  have hp_p1 := hp_p1.up hm (by omega)
  have hF := hF.tr (hm.l (by omega) (by omega))
  refine lv_aload_n hx hb dX4_takeBack_16 rfl (lv_at hl 0 rfl) ?_
  refine lv_dup hx hb dX4_takeBack_17 rfl ?_
  refine mm_get hC hM (k := 2) hp_this.1 rfl inAX4 (by decide) q1_171 rfl dX4_takeBack_18 ?_
  refine lv_iconst (v := 1) hx hb dX4_takeBack_21 (by decide) ?_
  refine lv_isub hx hb dX4_takeBack_22 ?_
  refine mm_put hC hM (k := 2) tyX4 hp_this.1 rfl inAX4 tyX4_ok nmX4 (by decide) q1_171 rfl rfl rfl rfl (Nat.le_of_ble_eq_true rfl) dX4_takeBack_23 (fun w23 H locs hM hm => ?_)
  have hp_this : At4 G w23 b slots (((free + 9) - 1) - ((free + 9) - 1) / 9 * 9) (count - 1) := ⟨hm.1, hm.keep (hp_this.2.1) (by omega), fun j hj => (hp_this.2.2 j hj).up hm (by omega)⟩
  have hp_p1 := hp_p1.up hm (by omega)
  have hF := hF.tr (hm.l (by omega) (by omega))
  refine lv_aload_n hx hb dX4_takeBack_26 rfl (lv_at hl 1 rfl) ?_
  refine lv_aload_n hx hb dX4_takeBack_27 rfl (lv_at hl 0 rfl) ?_
  refine mm_get hC hM (k := 0) hp_this.1 rfl inAX4 (by decide) q1_169 rfl dX4_takeBack_28 ?_
  refine lv_aload_n hx hb dX4_takeBack_31 rfl (lv_at hl 0 rfl) ?_
  refine mm_get hC hM (k := 1) hp_this.1 rfl inAX4 (by decide) q1_170 rfl dX4_takeBack_32 ?_
  refine mm_aald hC hM hp_this.2.1 hg8 dX4_takeBack_35 ?_
  refine mm_topr (v2 := .ref (b + 2 + 12 * (((free + 9) - 1) - ((free + 9) - 1) / 9 * 9).toNatClampNeg)) (by simp [va_rf, hlt]) ?_
  refine mm_Vv (rest := []) hC hM (c_X6_copyFrom l hq36 hp_p1 (hp_this.2.2 _ hlt) (by omega)) q3_67 q1_2 ykX6_copyFrom q3_179 q3_65 q3_66 hp_p1.1 rfl ⟨rfl, rfl⟩ ⟨Nat.le_of_ble_eq_true rfl, Nat.le_of_ble_eq_true rfl⟩ rfl hl.1 rfl (Nat.le_of_ble_eq_true rfl) dX4_takeBack_36 ⟨Nat.le_of_ble_eq_true rfl, Nat.le_of_ble_eq_true rfl⟩ (fun w36 H locs hM hw => ?_)
  obtain ⟨hn, hfr⟩ := hw
  have hp_this := hp_this.keep hfr (by omega)
  have hF := hF.tr (hfr.r (by omega) (by omega))
  exact hret hM dX4_takeBack_39 ⟨hp_this, hn, hF⟩
def f_X4_confirm (free : Int32) (count : Int32) : Option (Int32 × Int32) := some (((free + 1) - (free + 1) / 9 * 9), (if 8 < (count + 1) then 8 else (count + 1)))
set_option maxHeartbeats 4000000 in
set_option maxRecDepth 100000 in
theorem c_X4_confirm (l : Launch) {G : mm_G} {w : va_W} {sz : Nat} {b : Nat} {slots : Nat → mm_MV} {free : Int32} {count : Int32} {X : Int32 × Int32} (hf : f_X4_confirm free count = some X) (hp_this : At4 G w b slots free count) : Met l yX4_confirm (Cond.code yX4_confirm cX4_confirm 1 none :: gAll) ({ frames := 1, cells := 0, slots := 0, locals := 30 }) (va_Pc [.ref b] (mm_Pre G w sz)) (mm_Qv G w sz (fun w' => At4 G w' b slots X.1 X.2 ∧ mm_fr w w' b (b + 110))) 0 0 (va_A w sz) := by
  refine mm_headV [.ref b] (by decide +kernel) rfl (Nat.le_of_ble_eq_true rfl) ?_
  intro p e s m args below meth c A Q hsz hC hM hret hnm ls hl
  have hx := hC.1.1
  have hb := hC.1.2.1
  have hl : lv_has ls 1 [(0, .ref b)] := hl
  have hF : mm_fr w w b (b + 110) := mm_fr.rf
  rw [f_X4_confirm] at hf
  refine lv_aload_n hx hb dX4_confirm_0 rfl (lv_at hl 0 rfl) ?_
  refine lv_aload_n hx hb dX4_confirm_1 rfl (lv_at hl 0 rfl) ?_
  refine mm_get hC hM (k := 1) hp_this.1 rfl inAX4 (by decide) q1_170 rfl dX4_confirm_2 ?_
  refine lv_iconst (v := 1) hx hb dX4_confirm_5 (by decide) ?_
  refine lv_iadd hx hb dX4_confirm_6 ?_
  refine lv_bipush (v := 9) hx hb dX4_confirm_7 (by decide) ?_
  refine lv_irem hx hb dX4_confirm_9 (by decide) ?_
  refine mm_put hC hM (k := 1) tyX4 hp_this.1 rfl inAX4 tyX4_ok nmX4 (by decide) q1_170 rfl rfl rfl rfl (Nat.le_of_ble_eq_true rfl) dX4_confirm_10 (fun w10 H locs hM hm => ?_)
  have hp_this : At4 G w10 b slots ((free + 1) - (free + 1) / 9 * 9) count := ⟨hm.1, hm.keep (hp_this.2.1) (by omega), fun j hj => (hp_this.2.2 j hj).up hm (by omega)⟩
  have hF := hF.tr (hm.fr (by omega) (by omega))
  refine lv_aload_n hx hb dX4_confirm_13 rfl (lv_at hl 0 rfl) ?_
  refine lv_aload_n hx hb dX4_confirm_14 rfl (lv_at hl 0 rfl) ?_
  refine mm_get hC hM (k := 2) hp_this.1 rfl inAX4 (by decide) q1_171 rfl dX4_confirm_15 ?_
  refine lv_iconst (v := 1) hx hb dX4_confirm_18 (by decide) ?_
  refine lv_iadd hx hb dX4_confirm_19 ?_
  refine lv_bipush (v := 8) hx hb dX4_confirm_20 (by decide) ?_
  refine va_mmin hx hb (hC.1.2.2.1.trans hl.1.symm) hC.1.2.2.2.1 (hC.1.2.2.2.2 _ q4_47) (hC.1.2.2.2.2 _ q3_27) (hC.1.2.2.2.2 _ q1_24) (hC.1.2.2.2.2 _ q3_28) (Nat.le_of_ble_eq_true rfl) (Nat.le_of_ble_eq_true rfl) (Nat.le_of_ble_eq_true rfl) (Nat.le_of_ble_eq_true rfl) dX4_confirm_22 ?_
  refine mm_put hC hM (k := 2) tyX4 hp_this.1 rfl inAX4 tyX4_ok nmX4 (by decide) q1_171 rfl rfl rfl rfl (Nat.le_of_ble_eq_true rfl) dX4_confirm_25 (fun w25 H locs hM hm => ?_)
  have hp_this : At4 G w25 b slots ((free + 1) - (free + 1) / 9 * 9) (if 8 < (count + 1) then 8 else (count + 1)) := ⟨hm.1, hm.keep (hp_this.2.1) (by omega), fun j hj => (hp_this.2.2 j hj).up hm (by omega)⟩
  have hF := hF.tr (hm.fr (by omega) (by omega))
  cases hf
  exact hret hM dX4_confirm_28 ⟨hp_this, hF⟩
def f_X4_forget : Option (Int32) := some 0
set_option maxHeartbeats 4000000 in
set_option maxRecDepth 100000 in
theorem c_X4_forget (l : Launch) {G : mm_G} {w : va_W} {sz : Nat} {b : Nat} {slots : Nat → mm_MV} {free : Int32} {count : Int32} {X : Int32} (hf : f_X4_forget = some X) (hp_this : At4 G w b slots free count) : Met l yX4_forget (Cond.code yX4_forget cX4_forget 1 none :: gAll) ({ frames := 0, cells := 0, slots := 0, locals := 0 }) (va_Pc [.ref b] (mm_Pre G w sz)) (mm_Qv G w sz (fun w' => At4 G w' b slots free X ∧ mm_fr w w' b (b + 110))) 0 0 (va_A w sz) := by
  refine mm_headV [.ref b] (by decide +kernel) rfl (Nat.le_of_ble_eq_true rfl) ?_
  intro p e s m args below meth c A Q hsz hC hM hret hnm ls hl
  have hx := hC.1.1
  have hb := hC.1.2.1
  have hl : lv_has ls 1 [(0, .ref b)] := hl
  have hF : mm_fr w w b (b + 110) := mm_fr.rf
  rw [f_X4_forget] at hf
  refine lv_aload_n hx hb dX4_forget_0 rfl (lv_at hl 0 rfl) ?_
  refine lv_iconst (v := 0) hx hb dX4_forget_1 (by decide) ?_
  refine mm_put hC hM (k := 2) tyX4 hp_this.1 rfl inAX4 tyX4_ok nmX4 (by decide) q1_171 rfl rfl rfl rfl (Nat.le_of_ble_eq_true rfl) dX4_forget_2 (fun w2 H locs hM hm => ?_)
  have hp_this : At4 G w2 b slots free 0 := ⟨hm.1, hm.keep (hp_this.2.1) (by omega), fun j hj => (hp_this.2.2 j hj).up hm (by omega)⟩
  have hF := hF.tr (hm.fr (by omega) (by omega))
  cases hf
  exact hret hM dX4_forget_5 ⟨hp_this, hF⟩
