def f_X6_copyFrom (reeds_states : Nat → Int32) (fleet_numbers : Nat → Int32) (fleet_cells : Nat → Int32) (fleet_fares : Nat → Int32) (plans_moves : Nat → Int32) (plans_lengths : Nat → Int32) (landings_cells : Nat → Int32) (p1_reeds_states : Nat → Int32) (p1_reeds_count : Int32) (p1_reeds_broken : Int32) (p1_fleet_numbers : Nat → Int32) (p1_fleet_cells : Nat → Int32) (p1_fleet_fares : Nat → Int32) (p1_fleet_count : Int32) (p1_fleet_nextNumber : Int32) (p1_fleet_total : Int32) (p1_fleet_removedFares : Int32) (p1_fleet_meetings : Int32) (p1_plans_moves : Nat → Int32) (p1_plans_lengths : Nat → Int32) (p1_landings_cells : Nat → Int32) (p1_landings_count : Int32) (p1_fogSide : Int32) : Option ((Nat → Int32) × Int32 × Int32 × (Nat → Int32) × (Nat → Int32) × (Nat → Int32) × Int32 × Int32 × Int32 × Int32 × Int32 × (Nat → Int32) × (Nat → Int32) × (Nat → Int32) × Int32 × Int32) := (f_X9_copyFrom reeds_states p1_reeds_states p1_reeds_count p1_reeds_broken).bind fun q8 => (f_X3_copyFrom fleet_numbers fleet_cells fleet_fares p1_fleet_numbers p1_fleet_cells p1_fleet_fares p1_fleet_count p1_fleet_nextNumber p1_fleet_total p1_fleet_removedFares p1_fleet_meetings).bind fun q19 => (f_X8_copyFrom plans_moves plans_lengths p1_plans_moves p1_plans_lengths).bind fun q30 => (f_X5_copyFrom landings_cells p1_landings_cells p1_landings_count).bind fun q41 => some (q8.1, q8.2.1, q8.2.2, q19.1, q19.2.1, q19.2.2.1, q19.2.2.2.1, q19.2.2.2.2.1, q19.2.2.2.2.2.1, q19.2.2.2.2.2.2.1, q19.2.2.2.2.2.2.2, q30.1, q30.2, q41.1, q41.2, p1_fogSide)
set_option maxHeartbeats 4000000 in
set_option maxRecDepth 100000 in
theorem c_X6_copyFrom (l : Launch) {G : mm_G} {w : va_W} {sz : Nat} {b : Nat} {b1 : Nat} {reeds_states : Nat → Int32} {reeds_count : Int32} {reeds_broken : Int32} {fleet_numbers : Nat → Int32} {fleet_cells : Nat → Int32} {fleet_fares : Nat → Int32} {fleet_count : Int32} {fleet_nextNumber : Int32} {fleet_total : Int32} {fleet_removedFares : Int32} {fleet_meetings : Int32} {plans_moves : Nat → Int32} {plans_lengths : Nat → Int32} {landings_cells : Nat → Int32} {landings_count : Int32} {fogSide : Int32} {p1_reeds_states : Nat → Int32} {p1_reeds_count : Int32} {p1_reeds_broken : Int32} {p1_fleet_numbers : Nat → Int32} {p1_fleet_cells : Nat → Int32} {p1_fleet_fares : Nat → Int32} {p1_fleet_count : Int32} {p1_fleet_nextNumber : Int32} {p1_fleet_total : Int32} {p1_fleet_removedFares : Int32} {p1_fleet_meetings : Int32} {p1_plans_moves : Nat → Int32} {p1_plans_lengths : Nat → Int32} {p1_landings_cells : Nat → Int32} {p1_landings_count : Int32} {p1_fogSide : Int32} {X : (Nat → Int32) × Int32 × Int32 × (Nat → Int32) × (Nat → Int32) × (Nat → Int32) × Int32 × Int32 × Int32 × Int32 × Int32 × (Nat → Int32) × (Nat → Int32) × (Nat → Int32) × Int32 × Int32} (hf : f_X6_copyFrom reeds_states fleet_numbers fleet_cells fleet_fares plans_moves plans_lengths landings_cells p1_reeds_states p1_reeds_count p1_reeds_broken p1_fleet_numbers p1_fleet_cells p1_fleet_fares p1_fleet_count p1_fleet_nextNumber p1_fleet_total p1_fleet_removedFares p1_fleet_meetings p1_plans_moves p1_plans_lengths p1_landings_cells p1_landings_count p1_fogSide = some X) (hp_this : At6 G w b reeds_states reeds_count reeds_broken fleet_numbers fleet_cells fleet_fares fleet_count fleet_nextNumber fleet_total fleet_removedFares fleet_meetings plans_moves plans_lengths landings_cells landings_count fogSide) (hp_p1 : At6 G w b1 p1_reeds_states p1_reeds_count p1_reeds_broken p1_fleet_numbers p1_fleet_cells p1_fleet_fares p1_fleet_count p1_fleet_nextNumber p1_fleet_total p1_fleet_removedFares p1_fleet_meetings p1_plans_moves p1_plans_lengths p1_landings_cells p1_landings_count p1_fogSide) (hd0 : b + 12 ≤ b1 ∨ b1 + 12 ≤ b) : Met l yX6_copyFrom (Cond.code yX6_copyFrom cX6_copyFrom 2 none :: gAll) ({ frames := 2, cells := 0, slots := 0, locals := 81 }) (va_Pc [.ref b, .ref b1] (mm_Pre G w sz)) (mm_Qv G w sz (fun w' => At6 G w' b X.1 X.2.1 X.2.2.1 X.2.2.2.1 X.2.2.2.2.1 X.2.2.2.2.2.1 X.2.2.2.2.2.2.1 X.2.2.2.2.2.2.2.1 X.2.2.2.2.2.2.2.2.1 X.2.2.2.2.2.2.2.2.2.1 X.2.2.2.2.2.2.2.2.2.2.1 X.2.2.2.2.2.2.2.2.2.2.2.1 X.2.2.2.2.2.2.2.2.2.2.2.2.1 X.2.2.2.2.2.2.2.2.2.2.2.2.2.1 X.2.2.2.2.2.2.2.2.2.2.2.2.2.2.1 X.2.2.2.2.2.2.2.2.2.2.2.2.2.2.2 ∧ mm_fr w w' b (b + 12))) 0 0 (va_A w sz) := by
  refine mm_headV [.ref b, .ref b1] (by decide +kernel) rfl (Nat.le_of_ble_eq_true rfl) ?_
  intro p e s m args below meth c A Q hsz hC hM hret hnm ls hl
  have hx := hC.1.1
  have hb := hC.1.2.1
  have hl : lv_has ls 2 [(0, .ref b), (1, .ref b1)] := hl
  have hF : mm_fr w w b (b + 12) := mm_fr.rf
  rw [f_X6_copyFrom] at hf
  obtain ⟨hc_this, hp_this_reeds, hp_this_fleet, hp_this_plans, hp_this_landings⟩ := hp_this
  refine lv_aload_n hx hb dX6_copyFrom_0 rfl (lv_at hl 0 rfl) ?_
  refine mm_get hC hM (k := 0) hc_this rfl inAX6 (by decide) q1_138 rfl dX6_copyFrom_1 ?_
  refine lv_aload_n hx hb dX6_copyFrom_4 rfl (lv_at hl 1 rfl) ?_
  refine mm_get hC hM (k := 0) hp_p1.1 rfl inAX6 (by decide) q1_138 rfl dX6_copyFrom_5 ?_
  obtain ⟨q8, hq8, hf⟩ := mm_bd hf
  refine mm_Vv (rest := []) hC hM (c_X9_copyFrom l hq8 hp_this_reeds (hp_p1.2.1) (by omega)) q3_71 q1_3 ykX9_copyFrom q3_68 q3_69 q3_70 hp_this_reeds.1 rfl ⟨rfl, rfl⟩ ⟨Nat.le_of_ble_eq_true rfl, Nat.le_of_ble_eq_true rfl⟩ rfl hl.1 rfl (Nat.le_of_ble_eq_true rfl) dX6_copyFrom_8 ⟨Nat.le_of_ble_eq_true rfl, Nat.le_of_ble_eq_true rfl⟩ (fun w8 H locs hM hw => ?_)
  obtain ⟨hn_this, hfr⟩ := hw
  have hp_p1 := hp_p1.keep hfr (by omega)
  have hc_this := hfr.keep hc_this (by omega)
  have hp_this_fleet := hp_this_fleet.keep hfr (by omega)
  have hp_this_plans := hp_this_plans.keep hfr (by omega)
  have hp_this_landings := hp_this_landings.keep hfr (by omega)
  have hp_this_reeds := hn_this
  have hF := hF.tr (hfr.wide (by omega) (by omega))
  refine lv_aload_n hx hb dX6_copyFrom_11 rfl (lv_at hl 0 rfl) ?_
  refine mm_get hC hM (k := 1) hc_this rfl inAX6 (by decide) q1_141 rfl dX6_copyFrom_12 ?_
  refine lv_aload_n hx hb dX6_copyFrom_15 rfl (lv_at hl 1 rfl) ?_
  refine mm_get hC hM (k := 1) hp_p1.1 rfl inAX6 (by decide) q1_141 rfl dX6_copyFrom_16 ?_
  obtain ⟨q19, hq19, hf⟩ := mm_bd hf
  refine mm_Vv (rest := []) hC hM (c_X3_copyFrom l hq19 hp_this_fleet (hp_p1.2.2.1) (by omega)) q3_76 q1_4 ykX3_copyFrom q3_73 q3_74 q3_75 hp_this_fleet.1 rfl ⟨rfl, rfl⟩ ⟨Nat.le_of_ble_eq_true rfl, Nat.le_of_ble_eq_true rfl⟩ rfl hl.1 rfl (Nat.le_of_ble_eq_true rfl) dX6_copyFrom_19 ⟨Nat.le_of_ble_eq_true rfl, Nat.le_of_ble_eq_true rfl⟩ (fun w19 H locs hM hw => ?_)
  obtain ⟨hn_this, hfr⟩ := hw
  have hp_p1 := hp_p1.keep hfr (by omega)
  have hc_this := hfr.keep hc_this (by omega)
  have hp_this_reeds := hp_this_reeds.keep hfr (by omega)
  have hp_this_plans := hp_this_plans.keep hfr (by omega)
  have hp_this_landings := hp_this_landings.keep hfr (by omega)
  have hp_this_fleet := hn_this
  have hF := hF.tr (hfr.wide (by omega) (by omega))
  refine lv_aload_n hx hb dX6_copyFrom_22 rfl (lv_at hl 0 rfl) ?_
  refine mm_get hC hM (k := 2) hc_this rfl inAX6 (by decide) q1_143 rfl dX6_copyFrom_23 ?_
  refine lv_aload_n hx hb dX6_copyFrom_26 rfl (lv_at hl 1 rfl) ?_
  refine mm_get hC hM (k := 2) hp_p1.1 rfl inAX6 (by decide) q1_143 rfl dX6_copyFrom_27 ?_
  obtain ⟨q30, hq30, hf⟩ := mm_bd hf
  refine mm_Vv (rest := []) hC hM (c_X8_copyFrom l hq30 hp_this_plans (hp_p1.2.2.2.1) (by omega)) q3_81 q1_5 ykX8_copyFrom q3_78 q3_79 q3_80 hp_this_plans.1 rfl ⟨rfl, rfl⟩ ⟨Nat.le_of_ble_eq_true rfl, Nat.le_of_ble_eq_true rfl⟩ rfl hl.1 rfl (Nat.le_of_ble_eq_true rfl) dX6_copyFrom_30 ⟨Nat.le_of_ble_eq_true rfl, Nat.le_of_ble_eq_true rfl⟩ (fun w30 H locs hM hw => ?_)
  obtain ⟨hn_this, hfr⟩ := hw
  have hp_p1 := hp_p1.keep hfr (by omega)
  have hc_this := hfr.keep hc_this (by omega)
  have hp_this_reeds := hp_this_reeds.keep hfr (by omega)
  have hp_this_fleet := hp_this_fleet.keep hfr (by omega)
  have hp_this_landings := hp_this_landings.keep hfr (by omega)
  have hp_this_plans := hn_this
  have hF := hF.tr (hfr.wide (by omega) (by omega))
  refine lv_aload_n hx hb dX6_copyFrom_33 rfl (lv_at hl 0 rfl) ?_
  refine mm_get hC hM (k := 3) hc_this rfl inAX6 (by decide) q1_145 rfl dX6_copyFrom_34 ?_
  refine lv_aload_n hx hb dX6_copyFrom_37 rfl (lv_at hl 1 rfl) ?_
  refine mm_get hC hM (k := 3) hp_p1.1 rfl inAX6 (by decide) q1_145 rfl dX6_copyFrom_38 ?_
  obtain ⟨q41, hq41, hf⟩ := mm_bd hf
  refine mm_Vv (rest := []) hC hM (c_X5_copyFrom l hq41 hp_this_landings (hp_p1.2.2.2.2) (by omega)) q3_85 q1_6 ykX5_copyFrom q3_82 q3_83 q3_84 hp_this_landings.1 rfl ⟨rfl, rfl⟩ ⟨Nat.le_of_ble_eq_true rfl, Nat.le_of_ble_eq_true rfl⟩ rfl hl.1 rfl (Nat.le_of_ble_eq_true rfl) dX6_copyFrom_41 ⟨Nat.le_of_ble_eq_true rfl, Nat.le_of_ble_eq_true rfl⟩ (fun w41 H locs hM hw => ?_)
  obtain ⟨hn_this, hfr⟩ := hw
  have hp_p1 := hp_p1.keep hfr (by omega)
  have hc_this := hfr.keep hc_this (by omega)
  have hp_this_reeds := hp_this_reeds.keep hfr (by omega)
  have hp_this_fleet := hp_this_fleet.keep hfr (by omega)
  have hp_this_plans := hp_this_plans.keep hfr (by omega)
  have hp_this_landings := hn_this
  have hF := hF.tr (hfr.wide (by omega) (by omega))
  refine lv_aload_n hx hb dX6_copyFrom_44 rfl (lv_at hl 0 rfl) ?_
  refine lv_aload_n hx hb dX6_copyFrom_45 rfl (lv_at hl 1 rfl) ?_
  refine mm_get hC hM (k := 4) hp_p1.1 rfl inAX6 (by decide) q1_147 rfl dX6_copyFrom_46 ?_
  refine mm_put hC hM (k := 4) tyX6 hc_this rfl inAX6 tyX6_ok nmX6 (by decide) q1_147 rfl rfl rfl rfl (Nat.le_of_ble_eq_true rfl) dX6_copyFrom_49 (fun w49 H locs hM hm => ?_)
  have hp_p1 := hp_p1.up hm (by omega)
  have hc_this := hm.1
  have hp_this_reeds := hp_this_reeds.up hm (by omega)
  have hp_this_fleet := hp_this_fleet.up hm (by omega)
  have hp_this_plans := hp_this_plans.up hm (by omega)
  have hp_this_landings := hp_this_landings.up hm (by omega)
  have hF := hF.tr (hm.fr (by omega) (by omega))
  cases hf
  exact hret hM dX6_copyFrom_52 ⟨⟨hc_this, hp_this_reeds, hp_this_fleet, hp_this_plans, hp_this_landings⟩, hF⟩
def f_X6_growReed (K : Nat) (reeds_states : Nat → Int32) (reeds_count : Int32) (fleet_cells : Nat → Int32) (fleet_count : Int32) (x1 : Int32) (x2 : Int32) : Option (Int32 × (Nat → Int32) × Int32) := (f_X12_cellAt x1 x2).bind fun q2 => if q2 = (-1) then some ((-1), reeds_states, reeds_count) else (f_X9_stateOf reeds_states q2).bind fun q18 => if q18 = 0 then (f_X3_occupies K fleet_cells fleet_count q2 (-1)).bind fun q30 => if q30 = 0 then if reeds_count < 30 then (f_X9_grow reeds_states reeds_count q2).bind fun q68 => some (q68.1, q68.2.1, q68.2.2) else some ((-3), reeds_states, reeds_count) else some ((-3), reeds_states, reeds_count) else some ((-3), reeds_states, reeds_count)
set_option maxHeartbeats 4000000 in
set_option maxRecDepth 100000 in
theorem c_X6_growReed (l : Launch) {G : mm_G} {K : Nat} {w : va_W} {sz : Nat} {b : Nat} {reeds_states : Nat → Int32} {reeds_count : Int32} {reeds_broken : Int32} {fleet_numbers : Nat → Int32} {fleet_cells : Nat → Int32} {fleet_fares : Nat → Int32} {fleet_count : Int32} {fleet_nextNumber : Int32} {fleet_total : Int32} {fleet_removedFares : Int32} {fleet_meetings : Int32} {plans_moves : Nat → Int32} {plans_lengths : Nat → Int32} {landings_cells : Nat → Int32} {landings_count : Int32} {fogSide : Int32} {x1 : Int32} {x2 : Int32} {X : Int32 × (Nat → Int32) × Int32} (hf : f_X6_growReed K reeds_states reeds_count fleet_cells fleet_count x1 x2 = some X) (hp_this : At6 G w b reeds_states reeds_count reeds_broken fleet_numbers fleet_cells fleet_fares fleet_count fleet_nextNumber fleet_total fleet_removedFares fleet_meetings plans_moves plans_lengths landings_cells landings_count fogSide) : Met l yX6_growReed (Cond.code yX6_growReed cX6_growReed 5 (some .int) :: gAll) ({ frames := 2, cells := 0, slots := 0, locals := 44 }) (va_Pc [.ref b, .int x1, .int x2] (mm_Pre G w sz)) (mm_Qi G w sz (fun r w' => r = X.1 ∧ At6 G w' b X.2.1 X.2.2 reeds_broken fleet_numbers fleet_cells fleet_fares fleet_count fleet_nextNumber fleet_total fleet_removedFares fleet_meetings plans_moves plans_lengths landings_cells landings_count fogSide ∧ mm_fr w w' b (b + 12))) 0 0 (va_A w sz) := by
  refine mm_headI [.ref b, .int x1, .int x2] (by decide +kernel) rfl (Nat.le_of_ble_eq_true rfl) ?_
  intro p e s m args below meth c A Q hsz hC hM hret ls hl
  have hx := hC.1.1
  have hb := hC.1.2.1
  have hl : lv_has ls 5 [(0, .ref b), (1, .int x1), (2, .int x2)] := hl
  have hF : mm_fr w w b (b + 12) := mm_fr.rf
  rw [f_X6_growReed] at hf
  obtain ⟨hc_this, hp_this_reeds, hp_this_fleet, hp_this_plans, hp_this_landings⟩ := hp_this
  refine lv_iload_n hx hb dX6_growReed_0 rfl (lv_at hl 1 rfl) ?_
  refine lv_iload_n hx hb dX6_growReed_1 rfl (lv_at hl 2 rfl) ?_
  obtain ⟨q2, hq2, hf⟩ := mm_bd hf
  refine mm_SNi (rest := []) hC hM (c_X12_cellAt l hq2) q2_166 q1_1 ykX12_cellAt q3_184 q2_165 ⟨rfl, rfl⟩ ⟨Nat.le_of_ble_eq_true rfl, Nat.le_of_ble_eq_true rfl⟩ rfl hl.1 rfl (Nat.le_of_ble_eq_true rfl) dX6_growReed_2 ⟨Nat.le_of_ble_eq_true rfl, Nat.le_of_ble_eq_true rfl⟩ (fun r w2 H locs hM hw => ?_)
  obtain ⟨hr, hw⟩ := hw
  rw [hr]
  rw [hw] at hM
  refine lv_istore_n (lv' := [(3, .int q2), (0, .ref b), (1, .int x1), (2, .int x2)]) hx hb dX6_growReed_5 rfl hl (by decide) rfl (fun ls hl => ?_)
  refine lv_iload_n hx hb dX6_growReed_6 rfl (lv_at hl 0 rfl) ?_
  refine lv_iconst (v := (-1)) hx hb dX6_growReed_7 (by decide) ?_
  refine lv_icmp_ne (tgt := 13) hx hb dX6_growReed_8 (by decide) (fun hcd => ?_) (fun hcd => ?_)
  · rw [if_neg hcd] at hf
    refine lv_aload_n hx hb dX6_growReed_13 rfl (lv_at hl 1 rfl) ?_
    refine mm_get hC hM (k := 0) hc_this rfl inAX6 (by decide) q1_138 rfl dX6_growReed_14 ?_
    refine lv_iload_n hx hb dX6_growReed_17 rfl (lv_at hl 0 rfl) ?_
    obtain ⟨q18, hq18, hf⟩ := mm_bd hf
    refine mm_Vi (rest := []) hC hM (c_X9_stateOf l hq18 hp_this_reeds) q3_188 q1_3 ykX9_stateOf q3_185 q3_186 q3_187 hp_this_reeds.1 rfl ⟨rfl, rfl⟩ ⟨Nat.le_of_ble_eq_true rfl, Nat.le_of_ble_eq_true rfl⟩ rfl hl.1 rfl (Nat.le_of_ble_eq_true rfl) dX6_growReed_18 ⟨Nat.le_of_ble_eq_true rfl, Nat.le_of_ble_eq_true rfl⟩ (fun r w18 H locs hM hw => ?_)
    obtain ⟨hr, hw⟩ := hw
    rw [hr]
    rw [hw] at hM
    refine lv_if_ne (tgt := 40) hx hb dX6_growReed_21 (by decide) (fun hcd => ?_) (fun hcd => ?_)
    · rw [if_neg hcd] at hf
      refine lv_iconst (v := 0) hx hb dX6_growReed_40 (by decide) ?_
      refine lv_istore (lv' := [(4, .int 0), (3, .int q2), (0, .ref b), (1, .int x1), (2, .int x2)]) hx hb dX6_growReed_41 hl (by decide) rfl (fun ls hl => ?_)
      refine lv_iload hx hb dX6_growReed_43 (lv_at hl 0 rfl) ?_
      refine lv_if_eq (tgt := 60) hx hb dX6_growReed_45 (by decide) (fun _ => ?_) (fun c => absurd (by decide) c)
      refine lv_bipush (v := (-3)) hx hb dX6_growReed_60 (by decide) ?_
      cases hf
      exact hret hM dX6_growReed_62 rfl ⟨rfl, ⟨hc_this, hp_this_reeds, hp_this_fleet, hp_this_plans, hp_this_landings⟩, hF⟩
    · rw [if_pos hcd] at hf
      refine lv_aload_n hx hb dX6_growReed_24 rfl (lv_at hl 1 rfl) ?_
      refine mm_get hC hM (k := 1) hc_this rfl inAX6 (by decide) q1_141 rfl dX6_growReed_25 ?_
      refine lv_iload_n hx hb dX6_growReed_28 rfl (lv_at hl 0 rfl) ?_
      refine lv_iconst (v := (-1)) hx hb dX6_growReed_29 (by decide) ?_
      obtain ⟨q30, hq30, hf⟩ := mm_bd hf
      refine mm_Vi (rest := []) hC hM (c_X3_occupies l hq30 hp_this_fleet) q3_192 q1_4 ykX3_occupies q3_189 q3_190 q3_191 hp_this_fleet.1 rfl ⟨rfl, rfl⟩ ⟨Nat.le_of_ble_eq_true rfl, Nat.le_of_ble_eq_true rfl⟩ rfl hl.1 rfl (Nat.le_of_ble_eq_true rfl) dX6_growReed_30 ⟨Nat.le_of_ble_eq_true rfl, Nat.le_of_ble_eq_true rfl⟩ (fun r w30 H locs hM hw => ?_)
      obtain ⟨hr, hw⟩ := hw
      rw [hr]
      rw [hw] at hM
      refine lv_if_ne (tgt := 40) hx hb dX6_growReed_33 (by decide) (fun hcd => ?_) (fun hcd => ?_)
      · rw [if_neg hcd] at hf
        refine lv_iconst (v := 0) hx hb dX6_growReed_40 (by decide) ?_
        refine lv_istore (lv' := [(4, .int 0), (3, .int q2), (0, .ref b), (1, .int x1), (2, .int x2)]) hx hb dX6_growReed_41 hl (by decide) rfl (fun ls hl => ?_)
        refine lv_iload hx hb dX6_growReed_43 (lv_at hl 0 rfl) ?_
        refine lv_if_eq (tgt := 60) hx hb dX6_growReed_45 (by decide) (fun _ => ?_) (fun c => absurd (by decide) c)
        refine lv_bipush (v := (-3)) hx hb dX6_growReed_60 (by decide) ?_
        cases hf
        exact hret hM dX6_growReed_62 rfl ⟨rfl, ⟨hc_this, hp_this_reeds, hp_this_fleet, hp_this_plans, hp_this_landings⟩, hF⟩
      · rw [if_pos hcd] at hf
        refine lv_iconst (v := 1) hx hb dX6_growReed_36 (by decide) ?_
        refine lv_goto (tgt := 41) hx hb dX6_growReed_37 (by decide) ?_
        refine lv_istore (lv' := [(4, .int 1), (3, .int q2), (0, .ref b), (1, .int x1), (2, .int x2)]) hx hb dX6_growReed_41 hl (by decide) rfl (fun ls hl => ?_)
        refine lv_iload hx hb dX6_growReed_43 (lv_at hl 0 rfl) ?_
        refine lv_if_eq (tgt := 60) hx hb dX6_growReed_45 (by decide) (fun c => absurd c (by decide)) (fun _ => ?_)
        refine lv_aload_n hx hb dX6_growReed_48 rfl (lv_at hl 2 rfl) ?_
        refine mm_get hC hM (k := 0) hc_this rfl inAX6 (by decide) q1_138 rfl dX6_growReed_49 ?_
        refine mm_get hC hM (k := 1) hp_this_reeds.1 rfl inAX9 (by decide) q1_55 rfl dX6_growReed_52 ?_
        refine lv_bipush (v := 30) hx hb dX6_growReed_55 (by decide) ?_
        refine lv_icmp_lt (tgt := 63) hx hb dX6_growReed_57 (by decide) (fun hcd => ?_) (fun hcd => ?_)
        · rw [if_pos hcd] at hf
          refine lv_aload_n hx hb dX6_growReed_63 rfl (lv_at hl 2 rfl) ?_
          refine mm_get hC hM (k := 0) hc_this rfl inAX6 (by decide) q1_138 rfl dX6_growReed_64 ?_
          refine lv_iload_n hx hb dX6_growReed_67 rfl (lv_at hl 1 rfl) ?_
          obtain ⟨q68, hq68, hf⟩ := mm_bd hf
          refine mm_Vi (rest := []) hC hM (c_X9_grow l hq68 hp_this_reeds) q3_197 q1_3 ykX9_grow q3_194 q3_195 q3_196 hp_this_reeds.1 rfl ⟨rfl, rfl⟩ ⟨Nat.le_of_ble_eq_true rfl, Nat.le_of_ble_eq_true rfl⟩ rfl hl.1 rfl (Nat.le_of_ble_eq_true rfl) dX6_growReed_68 ⟨Nat.le_of_ble_eq_true rfl, Nat.le_of_ble_eq_true rfl⟩ (fun r w68 H locs hM hw => ?_)
          obtain ⟨hr, hn_this, hfr⟩ := hw
          rw [hr]
          have hc_this := hfr.keep hc_this (by omega)
          have hp_this_fleet := hp_this_fleet.keep hfr (by omega)
          have hp_this_plans := hp_this_plans.keep hfr (by omega)
          have hp_this_landings := hp_this_landings.keep hfr (by omega)
          have hp_this_reeds := hn_this
          have hF := hF.tr (hfr.wide (by omega) (by omega))
          cases hf
          exact hret hM dX6_growReed_71 rfl ⟨rfl, ⟨hc_this, hp_this_reeds, hp_this_fleet, hp_this_plans, hp_this_landings⟩, hF⟩
        · rw [if_neg hcd] at hf
          refine lv_bipush (v := (-3)) hx hb dX6_growReed_60 (by decide) ?_
          cases hf
          exact hret hM dX6_growReed_62 rfl ⟨rfl, ⟨hc_this, hp_this_reeds, hp_this_fleet, hp_this_plans, hp_this_landings⟩, hF⟩
  · rw [if_pos hcd] at hf
    refine lv_iconst (v := (-1)) hx hb dX6_growReed_11 (by decide) ?_
    cases hf
    exact hret hM dX6_growReed_12 rfl ⟨rfl, ⟨hc_this, hp_this_reeds, hp_this_fleet, hp_this_plans, hp_this_landings⟩, hF⟩
def f_X6_snapReed (reeds_states : Nat → Int32) (reeds_broken : Int32) (x1 : Int32) (x2 : Int32) : Option (Int32 × (Nat → Int32) × Int32) := (f_X12_cellAt x1 x2).bind fun q2 => if q2 = (-1) then some ((-1), reeds_states, reeds_broken) else (f_X9_stateOf reeds_states q2).bind fun q18 => if q18 = 0 then some ((-2), reeds_states, reeds_broken) else (f_X9_stateOf reeds_states q2).bind fun q32 => if q32 = 2 then some ((-3), reeds_states, reeds_broken) else (f_X9_snap reeds_states reeds_broken q2).bind fun q47 => some (q47.1, q47.2.1, q47.2.2)
set_option maxHeartbeats 4000000 in
set_option maxRecDepth 100000 in
theorem c_X6_snapReed (l : Launch) {G : mm_G} {w : va_W} {sz : Nat} {b : Nat} {reeds_states : Nat → Int32} {reeds_count : Int32} {reeds_broken : Int32} {fleet_numbers : Nat → Int32} {fleet_cells : Nat → Int32} {fleet_fares : Nat → Int32} {fleet_count : Int32} {fleet_nextNumber : Int32} {fleet_total : Int32} {fleet_removedFares : Int32} {fleet_meetings : Int32} {plans_moves : Nat → Int32} {plans_lengths : Nat → Int32} {landings_cells : Nat → Int32} {landings_count : Int32} {fogSide : Int32} {x1 : Int32} {x2 : Int32} {X : Int32 × (Nat → Int32) × Int32} (hf : f_X6_snapReed reeds_states reeds_broken x1 x2 = some X) (hp_this : At6 G w b reeds_states reeds_count reeds_broken fleet_numbers fleet_cells fleet_fares fleet_count fleet_nextNumber fleet_total fleet_removedFares fleet_meetings plans_moves plans_lengths landings_cells landings_count fogSide) : Met l yX6_snapReed (Cond.code yX6_snapReed cX6_snapReed 4 (some .int) :: gAll) ({ frames := 1, cells := 0, slots := 0, locals := 22 }) (va_Pc [.ref b, .int x1, .int x2] (mm_Pre G w sz)) (mm_Qi G w sz (fun r w' => r = X.1 ∧ At6 G w' b X.2.1 reeds_count X.2.2 fleet_numbers fleet_cells fleet_fares fleet_count fleet_nextNumber fleet_total fleet_removedFares fleet_meetings plans_moves plans_lengths landings_cells landings_count fogSide ∧ mm_fr w w' b (b + 12))) 0 0 (va_A w sz) := by
  refine mm_headI [.ref b, .int x1, .int x2] (by decide +kernel) rfl (Nat.le_of_ble_eq_true rfl) ?_
  intro p e s m args below meth c A Q hsz hC hM hret ls hl
  have hx := hC.1.1
  have hb := hC.1.2.1
  have hl : lv_has ls 4 [(0, .ref b), (1, .int x1), (2, .int x2)] := hl
  have hF : mm_fr w w b (b + 12) := mm_fr.rf
  rw [f_X6_snapReed] at hf
  obtain ⟨hc_this, hp_this_reeds, hp_this_fleet, hp_this_plans, hp_this_landings⟩ := hp_this
  refine lv_iload_n hx hb dX6_snapReed_0 rfl (lv_at hl 1 rfl) ?_
  refine lv_iload_n hx hb dX6_snapReed_1 rfl (lv_at hl 2 rfl) ?_
  obtain ⟨q2, hq2, hf⟩ := mm_bd hf
  refine mm_SNi (rest := []) hC hM (c_X12_cellAt l hq2) q2_166 q1_1 ykX12_cellAt q3_184 q2_165 ⟨rfl, rfl⟩ ⟨Nat.le_of_ble_eq_true rfl, Nat.le_of_ble_eq_true rfl⟩ rfl hl.1 rfl (Nat.le_of_ble_eq_true rfl) dX6_snapReed_2 ⟨Nat.le_of_ble_eq_true rfl, Nat.le_of_ble_eq_true rfl⟩ (fun r w2 H locs hM hw => ?_)
  obtain ⟨hr, hw⟩ := hw
  rw [hr]
  rw [hw] at hM
  refine lv_istore_n (lv' := [(3, .int q2), (0, .ref b), (1, .int x1), (2, .int x2)]) hx hb dX6_snapReed_5 rfl hl (by decide) rfl (fun ls hl => ?_)
  refine lv_iload_n hx hb dX6_snapReed_6 rfl (lv_at hl 0 rfl) ?_
  refine lv_iconst (v := (-1)) hx hb dX6_snapReed_7 (by decide) ?_
  refine lv_icmp_ne (tgt := 13) hx hb dX6_snapReed_8 (by decide) (fun hcd => ?_) (fun hcd => ?_)
  · rw [if_neg hcd] at hf
    refine lv_aload_n hx hb dX6_snapReed_13 rfl (lv_at hl 1 rfl) ?_
    refine mm_get hC hM (k := 0) hc_this rfl inAX6 (by decide) q1_138 rfl dX6_snapReed_14 ?_
    refine lv_iload_n hx hb dX6_snapReed_17 rfl (lv_at hl 0 rfl) ?_
    obtain ⟨q18, hq18, hf⟩ := mm_bd hf
    refine mm_Vi (rest := []) hC hM (c_X9_stateOf l hq18 hp_this_reeds) q3_188 q1_3 ykX9_stateOf q3_185 q3_186 q3_187 hp_this_reeds.1 rfl ⟨rfl, rfl⟩ ⟨Nat.le_of_ble_eq_true rfl, Nat.le_of_ble_eq_true rfl⟩ rfl hl.1 rfl (Nat.le_of_ble_eq_true rfl) dX6_snapReed_18 ⟨Nat.le_of_ble_eq_true rfl, Nat.le_of_ble_eq_true rfl⟩ (fun r w18 H locs hM hw => ?_)
    obtain ⟨hr, hw⟩ := hw
    rw [hr]
    rw [hw] at hM
    refine lv_if_ne (tgt := 27) hx hb dX6_snapReed_21 (by decide) (fun hcd => ?_) (fun hcd => ?_)
    · rw [if_neg hcd] at hf
      refine lv_aload_n hx hb dX6_snapReed_27 rfl (lv_at hl 1 rfl) ?_
      refine mm_get hC hM (k := 0) hc_this rfl inAX6 (by decide) q1_138 rfl dX6_snapReed_28 ?_
      refine lv_iload_n hx hb dX6_snapReed_31 rfl (lv_at hl 0 rfl) ?_
      obtain ⟨q32, hq32, hf⟩ := mm_bd hf
      refine mm_Vi (rest := []) hC hM (c_X9_stateOf l hq32 hp_this_reeds) q3_188 q1_3 ykX9_stateOf q3_185 q3_186 q3_187 hp_this_reeds.1 rfl ⟨rfl, rfl⟩ ⟨Nat.le_of_ble_eq_true rfl, Nat.le_of_ble_eq_true rfl⟩ rfl hl.1 rfl (Nat.le_of_ble_eq_true rfl) dX6_snapReed_32 ⟨Nat.le_of_ble_eq_true rfl, Nat.le_of_ble_eq_true rfl⟩ (fun r w32 H locs hM hw => ?_)
      obtain ⟨hr, hw⟩ := hw
      rw [hr]
      rw [hw] at hM
      refine lv_iconst (v := 2) hx hb dX6_snapReed_35 (by decide) ?_
      refine lv_icmp_ne (tgt := 42) hx hb dX6_snapReed_36 (by decide) (fun hcd => ?_) (fun hcd => ?_)
      · rw [if_neg hcd] at hf
        refine lv_aload_n hx hb dX6_snapReed_42 rfl (lv_at hl 1 rfl) ?_
        refine mm_get hC hM (k := 0) hc_this rfl inAX6 (by decide) q1_138 rfl dX6_snapReed_43 ?_
        refine lv_iload_n hx hb dX6_snapReed_46 rfl (lv_at hl 0 rfl) ?_
        obtain ⟨q47, hq47, hf⟩ := mm_bd hf
        refine mm_Vi (rest := []) hC hM (c_X9_snap l hq47 hp_this_reeds) q4_63 q1_3 ykX9_snap q4_60 q4_61 q4_62 hp_this_reeds.1 rfl ⟨rfl, rfl⟩ ⟨Nat.le_of_ble_eq_true rfl, Nat.le_of_ble_eq_true rfl⟩ rfl hl.1 rfl (Nat.le_of_ble_eq_true rfl) dX6_snapReed_47 ⟨Nat.le_of_ble_eq_true rfl, Nat.le_of_ble_eq_true rfl⟩ (fun r w47 H locs hM hw => ?_)
        obtain ⟨hr, hn_this, hfr⟩ := hw
        rw [hr]
        have hc_this := hfr.keep hc_this (by omega)
        have hp_this_fleet := hp_this_fleet.keep hfr (by omega)
        have hp_this_plans := hp_this_plans.keep hfr (by omega)
        have hp_this_landings := hp_this_landings.keep hfr (by omega)
        have hp_this_reeds := hn_this
        have hF := hF.tr (hfr.wide (by omega) (by omega))
        cases hf
        exact hret hM dX6_snapReed_50 rfl ⟨rfl, ⟨hc_this, hp_this_reeds, hp_this_fleet, hp_this_plans, hp_this_landings⟩, hF⟩
      · rw [if_pos hcd] at hf
        refine lv_bipush (v := (-3)) hx hb dX6_snapReed_39 (by decide) ?_
        cases hf
        exact hret hM dX6_snapReed_41 rfl ⟨rfl, ⟨hc_this, hp_this_reeds, hp_this_fleet, hp_this_plans, hp_this_landings⟩, hF⟩
    · rw [if_pos hcd] at hf
      refine lv_bipush (v := (-2)) hx hb dX6_snapReed_24 (by decide) ?_
      cases hf
      exact hret hM dX6_snapReed_26 rfl ⟨rfl, ⟨hc_this, hp_this_reeds, hp_this_fleet, hp_this_plans, hp_this_landings⟩, hF⟩
  · rw [if_pos hcd] at hf
    refine lv_iconst (v := (-1)) hx hb dX6_snapReed_11 (by decide) ?_
    cases hf
    exact hret hM dX6_snapReed_12 rfl ⟨rfl, ⟨hc_this, hp_this_reeds, hp_this_fleet, hp_this_plans, hp_this_landings⟩, hF⟩
def f_X6_cutReed (reeds_states : Nat → Int32) (reeds_count : Int32) (reeds_broken : Int32) (x1 : Int32) (x2 : Int32) : Option (Int32 × (Nat → Int32) × Int32 × Int32) := (f_X12_cellAt x1 x2).bind fun q2 => if q2 = (-1) then some ((-1), reeds_states, reeds_count, reeds_broken) else (f_X9_stateOf reeds_states q2).bind fun q18 => if q18 = 0 then some ((-2), reeds_states, reeds_count, reeds_broken) else (f_X9_cut reeds_states reeds_count reeds_broken q2).bind fun q32 => some (q32.1, q32.2.1, q32.2.2.1, q32.2.2.2)
set_option maxHeartbeats 4000000 in
set_option maxRecDepth 100000 in
theorem c_X6_cutReed (l : Launch) {G : mm_G} {w : va_W} {sz : Nat} {b : Nat} {reeds_states : Nat → Int32} {reeds_count : Int32} {reeds_broken : Int32} {fleet_numbers : Nat → Int32} {fleet_cells : Nat → Int32} {fleet_fares : Nat → Int32} {fleet_count : Int32} {fleet_nextNumber : Int32} {fleet_total : Int32} {fleet_removedFares : Int32} {fleet_meetings : Int32} {plans_moves : Nat → Int32} {plans_lengths : Nat → Int32} {landings_cells : Nat → Int32} {landings_count : Int32} {fogSide : Int32} {x1 : Int32} {x2 : Int32} {X : Int32 × (Nat → Int32) × Int32 × Int32} (hf : f_X6_cutReed reeds_states reeds_count reeds_broken x1 x2 = some X) (hp_this : At6 G w b reeds_states reeds_count reeds_broken fleet_numbers fleet_cells fleet_fares fleet_count fleet_nextNumber fleet_total fleet_removedFares fleet_meetings plans_moves plans_lengths landings_cells landings_count fogSide) : Met l yX6_cutReed (Cond.code yX6_cutReed cX6_cutReed 4 (some .int) :: gAll) ({ frames := 1, cells := 0, slots := 0, locals := 22 }) (va_Pc [.ref b, .int x1, .int x2] (mm_Pre G w sz)) (mm_Qi G w sz (fun r w' => r = X.1 ∧ At6 G w' b X.2.1 X.2.2.1 X.2.2.2 fleet_numbers fleet_cells fleet_fares fleet_count fleet_nextNumber fleet_total fleet_removedFares fleet_meetings plans_moves plans_lengths landings_cells landings_count fogSide ∧ mm_fr w w' b (b + 12))) 0 0 (va_A w sz) := by
  refine mm_headI [.ref b, .int x1, .int x2] (by decide +kernel) rfl (Nat.le_of_ble_eq_true rfl) ?_
  intro p e s m args below meth c A Q hsz hC hM hret ls hl
  have hx := hC.1.1
  have hb := hC.1.2.1
  have hl : lv_has ls 4 [(0, .ref b), (1, .int x1), (2, .int x2)] := hl
  have hF : mm_fr w w b (b + 12) := mm_fr.rf
  rw [f_X6_cutReed] at hf
  obtain ⟨hc_this, hp_this_reeds, hp_this_fleet, hp_this_plans, hp_this_landings⟩ := hp_this
  refine lv_iload_n hx hb dX6_cutReed_0 rfl (lv_at hl 1 rfl) ?_
  refine lv_iload_n hx hb dX6_cutReed_1 rfl (lv_at hl 2 rfl) ?_
  obtain ⟨q2, hq2, hf⟩ := mm_bd hf
  refine mm_SNi (rest := []) hC hM (c_X12_cellAt l hq2) q2_166 q1_1 ykX12_cellAt q3_184 q2_165 ⟨rfl, rfl⟩ ⟨Nat.le_of_ble_eq_true rfl, Nat.le_of_ble_eq_true rfl⟩ rfl hl.1 rfl (Nat.le_of_ble_eq_true rfl) dX6_cutReed_2 ⟨Nat.le_of_ble_eq_true rfl, Nat.le_of_ble_eq_true rfl⟩ (fun r w2 H locs hM hw => ?_)
  obtain ⟨hr, hw⟩ := hw
  rw [hr]
  rw [hw] at hM
  refine lv_istore_n (lv' := [(3, .int q2), (0, .ref b), (1, .int x1), (2, .int x2)]) hx hb dX6_cutReed_5 rfl hl (by decide) rfl (fun ls hl => ?_)
  refine lv_iload_n hx hb dX6_cutReed_6 rfl (lv_at hl 0 rfl) ?_
  refine lv_iconst (v := (-1)) hx hb dX6_cutReed_7 (by decide) ?_
  refine lv_icmp_ne (tgt := 13) hx hb dX6_cutReed_8 (by decide) (fun hcd => ?_) (fun hcd => ?_)
  · rw [if_neg hcd] at hf
    refine lv_aload_n hx hb dX6_cutReed_13 rfl (lv_at hl 1 rfl) ?_
    refine mm_get hC hM (k := 0) hc_this rfl inAX6 (by decide) q1_138 rfl dX6_cutReed_14 ?_
    refine lv_iload_n hx hb dX6_cutReed_17 rfl (lv_at hl 0 rfl) ?_
    obtain ⟨q18, hq18, hf⟩ := mm_bd hf
    refine mm_Vi (rest := []) hC hM (c_X9_stateOf l hq18 hp_this_reeds) q3_188 q1_3 ykX9_stateOf q3_185 q3_186 q3_187 hp_this_reeds.1 rfl ⟨rfl, rfl⟩ ⟨Nat.le_of_ble_eq_true rfl, Nat.le_of_ble_eq_true rfl⟩ rfl hl.1 rfl (Nat.le_of_ble_eq_true rfl) dX6_cutReed_18 ⟨Nat.le_of_ble_eq_true rfl, Nat.le_of_ble_eq_true rfl⟩ (fun r w18 H locs hM hw => ?_)
    obtain ⟨hr, hw⟩ := hw
    rw [hr]
    rw [hw] at hM
    refine lv_if_ne (tgt := 27) hx hb dX6_cutReed_21 (by decide) (fun hcd => ?_) (fun hcd => ?_)
    · rw [if_neg hcd] at hf
      refine lv_aload_n hx hb dX6_cutReed_27 rfl (lv_at hl 1 rfl) ?_
      refine mm_get hC hM (k := 0) hc_this rfl inAX6 (by decide) q1_138 rfl dX6_cutReed_28 ?_
      refine lv_iload_n hx hb dX6_cutReed_31 rfl (lv_at hl 0 rfl) ?_
      obtain ⟨q32, hq32, hf⟩ := mm_bd hf
      refine mm_Vi (rest := []) hC hM (c_X9_cut l hq32 hp_this_reeds) q4_78 q1_3 ykX9_cut q4_75 q4_76 q4_77 hp_this_reeds.1 rfl ⟨rfl, rfl⟩ ⟨Nat.le_of_ble_eq_true rfl, Nat.le_of_ble_eq_true rfl⟩ rfl hl.1 rfl (Nat.le_of_ble_eq_true rfl) dX6_cutReed_32 ⟨Nat.le_of_ble_eq_true rfl, Nat.le_of_ble_eq_true rfl⟩ (fun r w32 H locs hM hw => ?_)
      obtain ⟨hr, hn_this, hfr⟩ := hw
      rw [hr]
      have hc_this := hfr.keep hc_this (by omega)
      have hp_this_fleet := hp_this_fleet.keep hfr (by omega)
      have hp_this_plans := hp_this_plans.keep hfr (by omega)
      have hp_this_landings := hp_this_landings.keep hfr (by omega)
      have hp_this_reeds := hn_this
      have hF := hF.tr (hfr.wide (by omega) (by omega))
      cases hf
      exact hret hM dX6_cutReed_35 rfl ⟨rfl, ⟨hc_this, hp_this_reeds, hp_this_fleet, hp_this_plans, hp_this_landings⟩, hF⟩
    · rw [if_pos hcd] at hf
      refine lv_bipush (v := (-2)) hx hb dX6_cutReed_24 (by decide) ?_
      cases hf
      exact hret hM dX6_cutReed_26 rfl ⟨rfl, ⟨hc_this, hp_this_reeds, hp_this_fleet, hp_this_plans, hp_this_landings⟩, hF⟩
  · rw [if_pos hcd] at hf
    refine lv_iconst (v := (-1)) hx hb dX6_cutReed_11 (by decide) ?_
    cases hf
    exact hret hM dX6_cutReed_12 rfl ⟨rfl, ⟨hc_this, hp_this_reeds, hp_this_fleet, hp_this_plans, hp_this_landings⟩, hF⟩
def f_X6_moveFog (fogSide : Int32) (x1 : Int32) : Option (Int32 × Int32) := if x1 < 0 then some ((-4), fogSide) else if x1 ≤ 2 then some (fogSide, x1) else some ((-4), fogSide)
set_option maxHeartbeats 4000000 in
set_option maxRecDepth 100000 in
theorem c_X6_moveFog (l : Launch) {G : mm_G} {w : va_W} {sz : Nat} {b : Nat} {reeds_states : Nat → Int32} {reeds_count : Int32} {reeds_broken : Int32} {fleet_numbers : Nat → Int32} {fleet_cells : Nat → Int32} {fleet_fares : Nat → Int32} {fleet_count : Int32} {fleet_nextNumber : Int32} {fleet_total : Int32} {fleet_removedFares : Int32} {fleet_meetings : Int32} {plans_moves : Nat → Int32} {plans_lengths : Nat → Int32} {landings_cells : Nat → Int32} {landings_count : Int32} {fogSide : Int32} {x1 : Int32} {X : Int32 × Int32} (hf : f_X6_moveFog fogSide x1 = some X) (hp_this : At6 G w b reeds_states reeds_count reeds_broken fleet_numbers fleet_cells fleet_fares fleet_count fleet_nextNumber fleet_total fleet_removedFares fleet_meetings plans_moves plans_lengths landings_cells landings_count fogSide) : Met l yX6_moveFog (Cond.code yX6_moveFog cX6_moveFog 3 (some .int) :: gAll) ({ frames := 0, cells := 0, slots := 0, locals := 0 }) (va_Pc [.ref b, .int x1] (mm_Pre G w sz)) (mm_Qi G w sz (fun r w' => r = X.1 ∧ At6 G w' b reeds_states reeds_count reeds_broken fleet_numbers fleet_cells fleet_fares fleet_count fleet_nextNumber fleet_total fleet_removedFares fleet_meetings plans_moves plans_lengths landings_cells landings_count X.2 ∧ mm_fr w w' b (b + 12))) 0 0 (va_A w sz) := by
  refine mm_headI [.ref b, .int x1] (by decide +kernel) rfl (Nat.le_of_ble_eq_true rfl) ?_
  intro p e s m args below meth c A Q hsz hC hM hret ls hl
  have hx := hC.1.1
  have hb := hC.1.2.1
  have hl : lv_has ls 3 [(0, .ref b), (1, .int x1)] := hl
  have hF : mm_fr w w b (b + 12) := mm_fr.rf
  rw [f_X6_moveFog] at hf
  obtain ⟨hc_this, hp_this_reeds, hp_this_fleet, hp_this_plans, hp_this_landings⟩ := hp_this
  refine lv_iload_n hx hb dX6_moveFog_0 rfl (lv_at hl 1 rfl) ?_
  refine lv_if_lt (tgt := 9) hx hb dX6_moveFog_1 (by decide) (fun hcd => ?_) (fun hcd => ?_)
  · rw [if_pos hcd] at hf
    refine lv_bipush (v := (-4)) hx hb dX6_moveFog_9 (by decide) ?_
    cases hf
    exact hret hM dX6_moveFog_11 rfl ⟨rfl, ⟨hc_this, hp_this_reeds, hp_this_fleet, hp_this_plans, hp_this_landings⟩, hF⟩
  · rw [if_neg hcd] at hf
    refine lv_iload_n hx hb dX6_moveFog_4 rfl (lv_at hl 1 rfl) ?_
    refine lv_iconst (v := 2) hx hb dX6_moveFog_5 (by decide) ?_
    refine lv_icmp_le (tgt := 12) hx hb dX6_moveFog_6 (by decide) (fun hcd => ?_) (fun hcd => ?_)
    · rw [if_pos hcd] at hf
      refine lv_aload_n hx hb dX6_moveFog_12 rfl (lv_at hl 0 rfl) ?_
      refine mm_get hC hM (k := 4) hc_this rfl inAX6 (by decide) q1_147 rfl dX6_moveFog_13 ?_
      refine lv_istore_n (lv' := [(2, .int fogSide), (0, .ref b), (1, .int x1)]) hx hb dX6_moveFog_16 rfl hl (by decide) rfl (fun ls hl => ?_)
      refine lv_aload_n hx hb dX6_moveFog_17 rfl (lv_at hl 1 rfl) ?_
      refine lv_iload_n hx hb dX6_moveFog_18 rfl (lv_at hl 2 rfl) ?_
      refine mm_put hC hM (k := 4) tyX6 hc_this rfl inAX6 tyX6_ok nmX6 (by decide) q1_147 rfl rfl rfl rfl (Nat.le_of_ble_eq_true rfl) dX6_moveFog_19 (fun w19 H locs hM hm => ?_)
      have hc_this := hm.1
      have hp_this_reeds := hp_this_reeds.up hm (by omega)
      have hp_this_fleet := hp_this_fleet.up hm (by omega)
      have hp_this_plans := hp_this_plans.up hm (by omega)
      have hp_this_landings := hp_this_landings.up hm (by omega)
      have hF := hF.tr (hm.fr (by omega) (by omega))
      refine lv_iload_n hx hb dX6_moveFog_22 rfl (lv_at hl 0 rfl) ?_
      cases hf
      exact hret hM dX6_moveFog_23 rfl ⟨rfl, ⟨hc_this, hp_this_reeds, hp_this_fleet, hp_this_plans, hp_this_landings⟩, hF⟩
    · rw [if_neg hcd] at hf
      refine lv_bipush (v := (-4)) hx hb dX6_moveFog_9 (by decide) ?_
      cases hf
      exact hret hM dX6_moveFog_11 rfl ⟨rfl, ⟨hc_this, hp_this_reeds, hp_this_fleet, hp_this_plans, hp_this_landings⟩, hF⟩
def f_X6_launchBoat (K : Nat) (reeds_states : Nat → Int32) (fleet_numbers : Nat → Int32) (fleet_cells : Nat → Int32) (fleet_fares : Nat → Int32) (fleet_count : Int32) (fleet_nextNumber : Int32) (x1 : Int32) (x2 : Int32) : Option (Int32 × (Nat → Int32) × (Nat → Int32) × (Nat → Int32) × Int32 × Int32) := (f_X12_cellAt x1 x2).bind fun q2 => if q2 = (-1) then some ((-1), fleet_numbers, fleet_cells, fleet_fares, fleet_count, fleet_nextNumber) else if fleet_count < 4 then (f_X9_isOpen reeds_states q2).bind fun q32 => if q32 = 0 then some ((-5), fleet_numbers, fleet_cells, fleet_fares, fleet_count, fleet_nextNumber) else (f_X3_occupies K fleet_cells fleet_count q2 (-1)).bind fun q44 => if q44 = 0 then (f_X3_launch fleet_numbers fleet_cells fleet_fares fleet_count fleet_nextNumber q2).bind fun q58 => some (q58.1, q58.2.1, q58.2.2.1, q58.2.2.2.1, q58.2.2.2.2.1, q58.2.2.2.2.2) else some ((-5), fleet_numbers, fleet_cells, fleet_fares, fleet_count, fleet_nextNumber) else some ((-3), fleet_numbers, fleet_cells, fleet_fares, fleet_count, fleet_nextNumber)
set_option maxHeartbeats 4000000 in
set_option maxRecDepth 100000 in
theorem c_X6_launchBoat (l : Launch) {G : mm_G} {K : Nat} {w : va_W} {sz : Nat} {b : Nat} {reeds_states : Nat → Int32} {reeds_count : Int32} {reeds_broken : Int32} {fleet_numbers : Nat → Int32} {fleet_cells : Nat → Int32} {fleet_fares : Nat → Int32} {fleet_count : Int32} {fleet_nextNumber : Int32} {fleet_total : Int32} {fleet_removedFares : Int32} {fleet_meetings : Int32} {plans_moves : Nat → Int32} {plans_lengths : Nat → Int32} {landings_cells : Nat → Int32} {landings_count : Int32} {fogSide : Int32} {x1 : Int32} {x2 : Int32} {X : Int32 × (Nat → Int32) × (Nat → Int32) × (Nat → Int32) × Int32 × Int32} (hf : f_X6_launchBoat K reeds_states fleet_numbers fleet_cells fleet_fares fleet_count fleet_nextNumber x1 x2 = some X) (hp_this : At6 G w b reeds_states reeds_count reeds_broken fleet_numbers fleet_cells fleet_fares fleet_count fleet_nextNumber fleet_total fleet_removedFares fleet_meetings plans_moves plans_lengths landings_cells landings_count fogSide) : Met l yX6_launchBoat (Cond.code yX6_launchBoat cX6_launchBoat 4 (some .int) :: gAll) ({ frames := 2, cells := 0, slots := 0, locals := 44 }) (va_Pc [.ref b, .int x1, .int x2] (mm_Pre G w sz)) (mm_Qi G w sz (fun r w' => r = X.1 ∧ At6 G w' b reeds_states reeds_count reeds_broken X.2.1 X.2.2.1 X.2.2.2.1 X.2.2.2.2.1 X.2.2.2.2.2 fleet_total fleet_removedFares fleet_meetings plans_moves plans_lengths landings_cells landings_count fogSide ∧ mm_fr w w' b (b + 12))) 0 0 (va_A w sz) := by
  refine mm_headI [.ref b, .int x1, .int x2] (by decide +kernel) rfl (Nat.le_of_ble_eq_true rfl) ?_
  intro p e s m args below meth c A Q hsz hC hM hret ls hl
  have hx := hC.1.1
  have hb := hC.1.2.1
  have hl : lv_has ls 4 [(0, .ref b), (1, .int x1), (2, .int x2)] := hl
  have hF : mm_fr w w b (b + 12) := mm_fr.rf
  rw [f_X6_launchBoat] at hf
  obtain ⟨hc_this, hp_this_reeds, hp_this_fleet, hp_this_plans, hp_this_landings⟩ := hp_this
  refine lv_iload_n hx hb dX6_launchBoat_0 rfl (lv_at hl 1 rfl) ?_
  refine lv_iload_n hx hb dX6_launchBoat_1 rfl (lv_at hl 2 rfl) ?_
  obtain ⟨q2, hq2, hf⟩ := mm_bd hf
  refine mm_SNi (rest := []) hC hM (c_X12_cellAt l hq2) q2_166 q1_1 ykX12_cellAt q3_184 q2_165 ⟨rfl, rfl⟩ ⟨Nat.le_of_ble_eq_true rfl, Nat.le_of_ble_eq_true rfl⟩ rfl hl.1 rfl (Nat.le_of_ble_eq_true rfl) dX6_launchBoat_2 ⟨Nat.le_of_ble_eq_true rfl, Nat.le_of_ble_eq_true rfl⟩ (fun r w2 H locs hM hw => ?_)
  obtain ⟨hr, hw⟩ := hw
  rw [hr]
  rw [hw] at hM
  refine lv_istore_n (lv' := [(3, .int q2), (0, .ref b), (1, .int x1), (2, .int x2)]) hx hb dX6_launchBoat_5 rfl hl (by decide) rfl (fun ls hl => ?_)
  refine lv_iload_n hx hb dX6_launchBoat_6 rfl (lv_at hl 0 rfl) ?_
  refine lv_iconst (v := (-1)) hx hb dX6_launchBoat_7 (by decide) ?_
  refine lv_icmp_ne (tgt := 13) hx hb dX6_launchBoat_8 (by decide) (fun hcd => ?_) (fun hcd => ?_)
  · rw [if_neg hcd] at hf
    refine lv_aload_n hx hb dX6_launchBoat_13 rfl (lv_at hl 1 rfl) ?_
    refine mm_get hC hM (k := 1) hc_this rfl inAX6 (by decide) q1_141 rfl dX6_launchBoat_14 ?_
    refine mm_get hC hM (k := 3) hp_this_fleet.1 rfl inAX3 (by decide) q1_82 rfl dX6_launchBoat_17 ?_
    refine lv_iconst (v := 4) hx hb dX6_launchBoat_20 (by decide) ?_
    refine lv_icmp_lt (tgt := 27) hx hb dX6_launchBoat_21 (by decide) (fun hcd => ?_) (fun hcd => ?_)
    · rw [if_pos hcd] at hf
      refine lv_aload_n hx hb dX6_launchBoat_27 rfl (lv_at hl 1 rfl) ?_
      refine mm_get hC hM (k := 0) hc_this rfl inAX6 (by decide) q1_138 rfl dX6_launchBoat_28 ?_
      refine lv_iload_n hx hb dX6_launchBoat_31 rfl (lv_at hl 0 rfl) ?_
      obtain ⟨q32, hq32, hf⟩ := mm_bd hf
      refine mm_Vi (rest := []) hC hM (c_X9_isOpen l hq32 hp_this_reeds) q2_129 q1_3 ykX9_isOpen q4_122 q2_127 q2_128 hp_this_reeds.1 rfl ⟨rfl, rfl⟩ ⟨Nat.le_of_ble_eq_true rfl, Nat.le_of_ble_eq_true rfl⟩ rfl hl.1 rfl (Nat.le_of_ble_eq_true rfl) dX6_launchBoat_32 ⟨Nat.le_of_ble_eq_true rfl, Nat.le_of_ble_eq_true rfl⟩ (fun r w32 H locs hM hw => ?_)
      obtain ⟨hr, hw⟩ := hw
      rw [hr]
      rw [hw] at hM
      refine lv_if_eq (tgt := 50) hx hb dX6_launchBoat_35 (by decide) (fun hcd => ?_) (fun hcd => ?_)
      · rw [if_pos hcd] at hf
        refine lv_bipush (v := (-5)) hx hb dX6_launchBoat_50 (by decide) ?_
        cases hf
        exact hret hM dX6_launchBoat_52 rfl ⟨rfl, ⟨hc_this, hp_this_reeds, hp_this_fleet, hp_this_plans, hp_this_landings⟩, hF⟩
      · rw [if_neg hcd] at hf
        refine lv_aload_n hx hb dX6_launchBoat_38 rfl (lv_at hl 1 rfl) ?_
        refine mm_get hC hM (k := 1) hc_this rfl inAX6 (by decide) q1_141 rfl dX6_launchBoat_39 ?_
        refine lv_iload_n hx hb dX6_launchBoat_42 rfl (lv_at hl 0 rfl) ?_
        refine lv_iconst (v := (-1)) hx hb dX6_launchBoat_43 (by decide) ?_
        obtain ⟨q44, hq44, hf⟩ := mm_bd hf
        refine mm_Vi (rest := []) hC hM (c_X3_occupies l hq44 hp_this_fleet) q3_192 q1_4 ykX3_occupies q3_189 q3_190 q3_191 hp_this_fleet.1 rfl ⟨rfl, rfl⟩ ⟨Nat.le_of_ble_eq_true rfl, Nat.le_of_ble_eq_true rfl⟩ rfl hl.1 rfl (Nat.le_of_ble_eq_true rfl) dX6_launchBoat_44 ⟨Nat.le_of_ble_eq_true rfl, Nat.le_of_ble_eq_true rfl⟩ (fun r w44 H locs hM hw => ?_)
        obtain ⟨hr, hw⟩ := hw
        rw [hr]
        rw [hw] at hM
        refine lv_if_eq (tgt := 53) hx hb dX6_launchBoat_47 (by decide) (fun hcd => ?_) (fun hcd => ?_)
        · rw [if_pos hcd] at hf
          refine lv_aload_n hx hb dX6_launchBoat_53 rfl (lv_at hl 1 rfl) ?_
          refine mm_get hC hM (k := 1) hc_this rfl inAX6 (by decide) q1_141 rfl dX6_launchBoat_54 ?_
          refine lv_iload_n hx hb dX6_launchBoat_57 rfl (lv_at hl 0 rfl) ?_
          obtain ⟨q58, hq58, hf⟩ := mm_bd hf
          refine mm_Vi (rest := []) hC hM (c_X3_launch l hq58 hp_this_fleet) q4_126 q1_4 ykX3_launch q4_123 q4_124 q4_125 hp_this_fleet.1 rfl ⟨rfl, rfl⟩ ⟨Nat.le_of_ble_eq_true rfl, Nat.le_of_ble_eq_true rfl⟩ rfl hl.1 rfl (Nat.le_of_ble_eq_true rfl) dX6_launchBoat_58 ⟨Nat.le_of_ble_eq_true rfl, Nat.le_of_ble_eq_true rfl⟩ (fun r w58 H locs hM hw => ?_)
          obtain ⟨hr, hn_this, hfr⟩ := hw
          rw [hr]
          have hc_this := hfr.keep hc_this (by omega)
          have hp_this_reeds := hp_this_reeds.keep hfr (by omega)
          have hp_this_plans := hp_this_plans.keep hfr (by omega)
          have hp_this_landings := hp_this_landings.keep hfr (by omega)
          have hp_this_fleet := hn_this
          have hF := hF.tr (hfr.wide (by omega) (by omega))
          cases hf
          exact hret hM dX6_launchBoat_61 rfl ⟨rfl, ⟨hc_this, hp_this_reeds, hp_this_fleet, hp_this_plans, hp_this_landings⟩, hF⟩
        · rw [if_neg hcd] at hf
          refine lv_bipush (v := (-5)) hx hb dX6_launchBoat_50 (by decide) ?_
          cases hf
          exact hret hM dX6_launchBoat_52 rfl ⟨rfl, ⟨hc_this, hp_this_reeds, hp_this_fleet, hp_this_plans, hp_this_landings⟩, hF⟩
    · rw [if_neg hcd] at hf
      refine lv_bipush (v := (-3)) hx hb dX6_launchBoat_24 (by decide) ?_
      cases hf
      exact hret hM dX6_launchBoat_26 rfl ⟨rfl, ⟨hc_this, hp_this_reeds, hp_this_fleet, hp_this_plans, hp_this_landings⟩, hF⟩
  · rw [if_pos hcd] at hf
    refine lv_iconst (v := (-1)) hx hb dX6_launchBoat_11 (by decide) ?_
    cases hf
    exact hret hM dX6_launchBoat_12 rfl ⟨rfl, ⟨hc_this, hp_this_reeds, hp_this_fleet, hp_this_plans, hp_this_landings⟩, hF⟩
def f_X6_blockedPosition_L13 (K : Nat) (reeds_states : Nat → Int32) (fleet_cells : Nat → Int32) (fleet_count : Int32) (plans_moves : Nat → Int32) (plans_lengths : Nat → Int32) (x1 : Int32) (x2 : Int32) : Nat → (Int32) → (Int32) → Option (Int32)
  | 0, _, _ => none
  | n + 1, x3, x4 => mm_g (mm_ck x2 6) (if (plans_lengths x2.toNatClampNeg) ≤ x4 then some (-1) else (f_X8_moveIn plans_moves x2 x4).bind fun q35 => (f_X12_neighbour x3 q35).bind fun q38 => if q38 = (-1) then some x4 else (f_X9_isOpen reeds_states q38).bind fun q52 => if q52 = 0 then some x4 else (f_X3_occupies K fleet_cells fleet_count q38 x1).bind fun q64 => if q64 = 0 then f_X6_blockedPosition_L13 K reeds_states fleet_cells fleet_count plans_moves plans_lengths x1 x2 n q38 (x4 + 1) else some x4)
def f_X6_blockedPosition (K : Nat) (reeds_states : Nat → Int32) (fleet_cells : Nat → Int32) (fleet_count : Int32) (plans_moves : Nat → Int32) (plans_lengths : Nat → Int32) (x1 : Int32) (x2 : Int32) : Option (Int32) := mm_g (mm_ck x1 4) (f_X6_blockedPosition_L13 K reeds_states fleet_cells fleet_count plans_moves plans_lengths x1 x2 K (fleet_cells x1.toNatClampNeg) 0)
set_option maxHeartbeats 4000000 in
set_option maxRecDepth 100000 in
theorem c_X6_blockedPosition (l : Launch) {G : mm_G} {K : Nat} {w : va_W} {sz : Nat} {b : Nat} {reeds_states : Nat → Int32} {reeds_count : Int32} {reeds_broken : Int32} {fleet_numbers : Nat → Int32} {fleet_cells : Nat → Int32} {fleet_fares : Nat → Int32} {fleet_count : Int32} {fleet_nextNumber : Int32} {fleet_total : Int32} {fleet_removedFares : Int32} {fleet_meetings : Int32} {plans_moves : Nat → Int32} {plans_lengths : Nat → Int32} {landings_cells : Nat → Int32} {landings_count : Int32} {fogSide : Int32} {x1 : Int32} {x2 : Int32} {X : Int32} (hf : f_X6_blockedPosition K reeds_states fleet_cells fleet_count plans_moves plans_lengths x1 x2 = some X) (hp_this : At6 G w b reeds_states reeds_count reeds_broken fleet_numbers fleet_cells fleet_fares fleet_count fleet_nextNumber fleet_total fleet_removedFares fleet_meetings plans_moves plans_lengths landings_cells landings_count fogSide) : Met l yX6_blockedPosition (Cond.code yX6_blockedPosition cX6_blockedPosition 5 (some .int) :: gAll) ({ frames := 2, cells := 0, slots := 0, locals := 45 }) (va_Pc [.ref b, .int x1, .int x2] (mm_Pre G w sz)) (mm_Qi G w sz (fun r w' => r = X ∧ w' = w)) 0 0 (va_A w sz) := by
  refine mm_headI [.ref b, .int x1, .int x2] (by decide +kernel) rfl (Nat.le_of_ble_eq_true rfl) ?_
  intro p e s m args below meth c A Q hsz hC hM hret ls hl
  have hx := hC.1.1
  have hb := hC.1.2.1
  have hl : lv_has ls 5 [(0, .ref b), (1, .int x1), (2, .int x2)] := hl
  rw [f_X6_blockedPosition] at hf
  refine lv_aload_n hx hb dX6_blockedPosition_0 rfl (lv_at hl 0 rfl) ?_
  refine mm_get hC hM (k := 1) hp_this.1 rfl inAX6 (by decide) q1_141 rfl dX6_blockedPosition_1 ?_
  refine mm_get hC hM (k := 1) (hp_this.2.2.1).1 rfl inAX3 (by decide) q1_77 rfl dX6_blockedPosition_4 ?_
  refine lv_iload_n hx hb dX6_blockedPosition_7 rfl (lv_at hl 1 rfl) ?_
  obtain ⟨hg8, hf⟩ := mm_gd hf
  refine mm_iald hC hM ((hp_this.2.2.1).2.2.1) hg8 dX6_blockedPosition_8 ?_
  refine lv_istore_n (lv' := [(3, .int (fleet_cells x1.toNatClampNeg)), (0, .ref b), (1, .int x1), (2, .int x2)]) hx hb dX6_blockedPosition_9 rfl hl (by decide) rfl (fun ls hl => ?_)
  refine lv_iconst (v := 0) hx hb dX6_blockedPosition_10 (by decide) ?_
  refine lv_istore (lv' := [(4, .int 0), (3, .int (fleet_cells x1.toNatClampNeg)), (0, .ref b), (1, .int x1), (2, .int x2)]) hx hb dX6_blockedPosition_11 hl (by decide) rfl (fun ls hl => ?_)
  have L13 : ∀ (n : Nat) (L13_x3 : Int32) (L13_x4 : Int32), f_X6_blockedPosition_L13 K reeds_states fleet_cells fleet_count plans_moves plans_lengths x1 x2 n L13_x3 L13_x4 = some X → ∀ (H : Heap) (locs : List Loc), mm_S G A s.heap w H locs → ∀ (ls : Array Slot), lv_has ls 5 [(0, .ref b), (1, .int x1), (2, .int x2), (3, .int L13_x3), (4, .int L13_x4)] → W p l e ({ frames := 2, cells := 0, slots := 0, locals := 45 } : Room) s m args below meth c H locs 0 0 Q (F0 m 13 ls []) := by
    intro n
    induction n with
    | zero => intro L13_x3 L13_x4 hf; cases hf
    | succ n ih =>
      intro L13_x3 L13_x4 hf H locs hM ls hl
      rw [f_X6_blockedPosition_L13] at hf
      refine lv_iload hx hb dX6_blockedPosition_13 (lv_at hl 4 rfl) ?_
      refine lv_aload_n hx hb dX6_blockedPosition_15 rfl (lv_at hl 0 rfl) ?_
      refine mm_get hC hM (k := 2) hp_this.1 rfl inAX6 (by decide) q1_143 rfl dX6_blockedPosition_16 ?_
      refine mm_get hC hM (k := 1) (hp_this.2.2.2.1).1 rfl inAX8 (by decide) q1_116 rfl dX6_blockedPosition_19 ?_
      refine lv_iload_n hx hb dX6_blockedPosition_22 rfl (lv_at hl 2 rfl) ?_
      obtain ⟨hg23, hf⟩ := mm_gd hf
      refine mm_iald hC hM ((hp_this.2.2.2.1).2.2) hg23 dX6_blockedPosition_23 ?_
      refine lv_icmp_ge (tgt := 79) hx hb dX6_blockedPosition_24 (by decide) (fun hcd => ?_) (fun hcd => ?_)
      · rw [if_pos hcd] at hf
        refine lv_iconst (v := (-1)) hx hb dX6_blockedPosition_79 (by decide) ?_
        cases hf
        exact hret hM dX6_blockedPosition_80 rfl ⟨rfl, rfl⟩
      · rw [if_neg hcd] at hf
        refine lv_iload_n hx hb dX6_blockedPosition_27 rfl (lv_at hl 3 rfl) ?_
        refine lv_aload_n hx hb dX6_blockedPosition_28 rfl (lv_at hl 0 rfl) ?_
        refine mm_get hC hM (k := 2) hp_this.1 rfl inAX6 (by decide) q1_143 rfl dX6_blockedPosition_29 ?_
        refine lv_iload_n hx hb dX6_blockedPosition_32 rfl (lv_at hl 2 rfl) ?_
        refine lv_iload hx hb dX6_blockedPosition_33 (lv_at hl 4 rfl) ?_
        obtain ⟨q35, hq35, hf⟩ := mm_bd hf
        refine mm_Vi (rest := [.int L13_x3]) hC hM (c_X8_moveIn l hq35 (hp_this.2.2.2.1)) q2_225 q1_5 ykX8_moveIn q5_86 q2_223 q2_224 (hp_this.2.2.2.1).1 rfl ⟨rfl, rfl⟩ ⟨Nat.le_of_ble_eq_true rfl, Nat.le_of_ble_eq_true rfl⟩ rfl hl.1 rfl (Nat.le_of_ble_eq_true rfl) dX6_blockedPosition_35 ⟨Nat.le_of_ble_eq_true rfl, Nat.le_of_ble_eq_true rfl⟩ (fun r w35 H locs hM hw => ?_)
        obtain ⟨hr, hw⟩ := hw
        rw [hr]
        rw [hw] at hM
        obtain ⟨q38, hq38, hf⟩ := mm_bd hf
        refine mm_SNi (rest := []) hC hM (c_X12_neighbour l hq38) q2_159 q1_1 ykX12_neighbour q5_87 q2_158 ⟨rfl, rfl⟩ ⟨Nat.le_of_ble_eq_true rfl, Nat.le_of_ble_eq_true rfl⟩ rfl hl.1 rfl (Nat.le_of_ble_eq_true rfl) dX6_blockedPosition_38 ⟨Nat.le_of_ble_eq_true rfl, Nat.le_of_ble_eq_true rfl⟩ (fun r w38 H locs hM hw => ?_)
        obtain ⟨hr, hw⟩ := hw
        rw [hr]
        rw [hw] at hM
        refine lv_istore_n (lv' := [(3, .int q38), (0, .ref b), (1, .int x1), (2, .int x2), (4, .int L13_x4)]) hx hb dX6_blockedPosition_41 rfl hl (by decide) rfl (fun ls hl => ?_)
        refine lv_iload_n hx hb dX6_blockedPosition_42 rfl (lv_at hl 0 rfl) ?_
        refine lv_iconst (v := (-1)) hx hb dX6_blockedPosition_43 (by decide) ?_
        refine lv_icmp_eq (tgt := 70) hx hb dX6_blockedPosition_44 (by decide) (fun hcd => ?_) (fun hcd => ?_)
        · rw [if_pos hcd] at hf
          refine lv_iload hx hb dX6_blockedPosition_70 (lv_at hl 4 rfl) ?_
          cases hf
          exact hret hM dX6_blockedPosition_72 rfl ⟨rfl, rfl⟩
        · rw [if_neg hcd] at hf
          refine lv_aload_n hx hb dX6_blockedPosition_47 rfl (lv_at hl 1 rfl) ?_
          refine mm_get hC hM (k := 0) hp_this.1 rfl inAX6 (by decide) q1_138 rfl dX6_blockedPosition_48 ?_
          refine lv_iload_n hx hb dX6_blockedPosition_51 rfl (lv_at hl 0 rfl) ?_
          obtain ⟨q52, hq52, hf⟩ := mm_bd hf
          refine mm_Vi (rest := []) hC hM (c_X9_isOpen l hq52 (hp_this.2.1)) q2_129 q1_3 ykX9_isOpen q4_122 q2_127 q2_128 (hp_this.2.1).1 rfl ⟨rfl, rfl⟩ ⟨Nat.le_of_ble_eq_true rfl, Nat.le_of_ble_eq_true rfl⟩ rfl hl.1 rfl (Nat.le_of_ble_eq_true rfl) dX6_blockedPosition_52 ⟨Nat.le_of_ble_eq_true rfl, Nat.le_of_ble_eq_true rfl⟩ (fun r w52 H locs hM hw => ?_)
          obtain ⟨hr, hw⟩ := hw
          rw [hr]
          rw [hw] at hM
          refine lv_if_eq (tgt := 70) hx hb dX6_blockedPosition_55 (by decide) (fun hcd => ?_) (fun hcd => ?_)
          · rw [if_pos hcd] at hf
            refine lv_iload hx hb dX6_blockedPosition_70 (lv_at hl 4 rfl) ?_
            cases hf
            exact hret hM dX6_blockedPosition_72 rfl ⟨rfl, rfl⟩
          · rw [if_neg hcd] at hf
            refine lv_aload_n hx hb dX6_blockedPosition_58 rfl (lv_at hl 1 rfl) ?_
            refine mm_get hC hM (k := 1) hp_this.1 rfl inAX6 (by decide) q1_141 rfl dX6_blockedPosition_59 ?_
            refine lv_iload_n hx hb dX6_blockedPosition_62 rfl (lv_at hl 0 rfl) ?_
            refine lv_iload_n hx hb dX6_blockedPosition_63 rfl (lv_at hl 2 rfl) ?_
            obtain ⟨q64, hq64, hf⟩ := mm_bd hf
            refine mm_Vi (rest := []) hC hM (c_X3_occupies l hq64 (hp_this.2.2.1)) q3_192 q1_4 ykX3_occupies q3_189 q3_190 q3_191 (hp_this.2.2.1).1 rfl ⟨rfl, rfl⟩ ⟨Nat.le_of_ble_eq_true rfl, Nat.le_of_ble_eq_true rfl⟩ rfl hl.1 rfl (Nat.le_of_ble_eq_true rfl) dX6_blockedPosition_64 ⟨Nat.le_of_ble_eq_true rfl, Nat.le_of_ble_eq_true rfl⟩ (fun r w64 H locs hM hw => ?_)
            obtain ⟨hr, hw⟩ := hw
            rw [hr]
            rw [hw] at hM
            refine lv_if_eq (tgt := 73) hx hb dX6_blockedPosition_67 (by decide) (fun hcd => ?_) (fun hcd => ?_)
            · rw [if_pos hcd] at hf
              refine lv_iinc (v := (L13_x4 + 1)) (lv' := [(4, .int (L13_x4 + 1)), (3, .int q38), (0, .ref b), (1, .int x1), (2, .int x2)]) hx hb dX6_blockedPosition_73 hl (k := 4) rfl rfl (by decide) rfl (fun ls hl => ?_)
              refine lv_goto (tgt := 13) hx hb dX6_blockedPosition_76 (by decide) ?_
              exact ih _ _ hf _ _ hM _ (lv_sub hl [2, 3, 4, 1, 0] rfl)
            · rw [if_neg hcd] at hf
              refine lv_iload hx hb dX6_blockedPosition_70 (lv_at hl 4 rfl) ?_
              cases hf
              exact hret hM dX6_blockedPosition_72 rfl ⟨rfl, rfl⟩
  exact L13 K _ _ hf _ _ hM _ (lv_sub hl [2, 3, 4, 1, 0] rfl)
def f_X6_sailBy_L53 (plans_moves : Nat → Int32) (x2 : Int32) (x3 : Int32) (x4 : Int32) : Nat → (Int32) → (Nat → Int32) → (Int32) → Option ((Nat → Int32) × Int32)
  | 0, _, _, _ => none
  | n + 1, x5, fleet_cells, fleet_meetings => if x4 ≤ x5 then some (fleet_cells, fleet_meetings) else (f_X8_moveIn plans_moves x2 x5).bind fun q72 => (f_X3_step fleet_cells fleet_meetings x3 q72).bind fun q75 => f_X6_sailBy_L53 plans_moves x2 x3 x4 n (x5 + 1) q75.1 q75.2
def f_X6_sailBy (K : Nat) (reeds_states : Nat → Int32) (fleet_numbers : Nat → Int32) (fleet_cells : Nat → Int32) (fleet_fares : Nat → Int32) (fleet_count : Int32) (fleet_total : Int32) (fleet_meetings : Int32) (plans_moves : Nat → Int32) (plans_lengths : Nat → Int32) (x1 : Int32) (x2 : Int32) : Option (Int32 × (Nat → Int32) × (Nat → Int32) × Int32 × Int32) := (f_X3_placeOf K fleet_numbers fleet_count x1).bind fun q5 => if q5 = (-1) then some ((-2), fleet_cells, fleet_fares, fleet_total, fleet_meetings) else (f_X12_isPlan x2).bind fun q18 => if q18 = 0 then some ((-1), fleet_cells, fleet_fares, fleet_total, fleet_meetings) else (f_X6_blockedPosition K reeds_states fleet_cells fleet_count plans_moves plans_lengths q5 x2).bind fun q29 => if q29 = (-1) then mm_g (mm_ck x2 6) ((f_X6_sailBy_L53 plans_moves x2 q5 (plans_lengths x2.toNatClampNeg) K 0 fleet_cells fleet_meetings).bind fun q53 => if ((plans_lengths x2.toNatClampNeg) - (plans_lengths x2.toNatClampNeg) / 2 * 2) = 0 then (f_X3_pay fleet_fares fleet_total q5 ((plans_lengths x2.toNatClampNeg) + 1)).bind fun q109 => some (((plans_lengths x2.toNatClampNeg) + 1), q53.1, q109.1, q109.2, q53.2) else (f_X3_pay fleet_fares fleet_total q5 (plans_lengths x2.toNatClampNeg)).bind fun q109 => some ((plans_lengths x2.toNatClampNeg), q53.1, q109.1, q109.2, q53.2)) else some ((-5), fleet_cells, fleet_fares, fleet_total, fleet_meetings)
set_option maxHeartbeats 4000000 in
set_option maxRecDepth 100000 in
theorem c_X6_sailBy (l : Launch) {G : mm_G} {K : Nat} {w : va_W} {sz : Nat} {b : Nat} {reeds_states : Nat → Int32} {reeds_count : Int32} {reeds_broken : Int32} {fleet_numbers : Nat → Int32} {fleet_cells : Nat → Int32} {fleet_fares : Nat → Int32} {fleet_count : Int32} {fleet_nextNumber : Int32} {fleet_total : Int32} {fleet_removedFares : Int32} {fleet_meetings : Int32} {plans_moves : Nat → Int32} {plans_lengths : Nat → Int32} {landings_cells : Nat → Int32} {landings_count : Int32} {fogSide : Int32} {x1 : Int32} {x2 : Int32} {X : Int32 × (Nat → Int32) × (Nat → Int32) × Int32 × Int32} (hf : f_X6_sailBy K reeds_states fleet_numbers fleet_cells fleet_fares fleet_count fleet_total fleet_meetings plans_moves plans_lengths x1 x2 = some X) (hp_this : At6 G w b reeds_states reeds_count reeds_broken fleet_numbers fleet_cells fleet_fares fleet_count fleet_nextNumber fleet_total fleet_removedFares fleet_meetings plans_moves plans_lengths landings_cells landings_count fogSide) : Met l yX6_sailBy (Cond.code yX6_sailBy cX6_sailBy 6 (some .int) :: gAll) ({ frames := 3, cells := 0, slots := 0, locals := 69 }) (va_Pc [.ref b, .int x1, .int x2] (mm_Pre G w sz)) (mm_Qi G w sz (fun r w' => r = X.1 ∧ At6 G w' b reeds_states reeds_count reeds_broken fleet_numbers X.2.1 X.2.2.1 fleet_count fleet_nextNumber X.2.2.2.1 fleet_removedFares X.2.2.2.2 plans_moves plans_lengths landings_cells landings_count fogSide ∧ mm_fr w w' b (b + 12))) 0 0 (va_A w sz) := by
  refine mm_headI [.ref b, .int x1, .int x2] (by decide +kernel) rfl (Nat.le_of_ble_eq_true rfl) ?_
  intro p e s m args below meth c A Q hsz hC hM hret ls hl
  have hx := hC.1.1
  have hb := hC.1.2.1
  have hl : lv_has ls 6 [(0, .ref b), (1, .int x1), (2, .int x2)] := hl
  have hF : mm_fr w w b (b + 12) := mm_fr.rf
  rw [f_X6_sailBy] at hf
  obtain ⟨hc_this, hp_this_reeds, hp_this_fleet, hp_this_plans, hp_this_landings⟩ := hp_this
  refine lv_aload_n hx hb dX6_sailBy_0 rfl (lv_at hl 0 rfl) ?_
  refine mm_get hC hM (k := 1) hc_this rfl inAX6 (by decide) q1_141 rfl dX6_sailBy_1 ?_
  refine lv_iload_n hx hb dX6_sailBy_4 rfl (lv_at hl 1 rfl) ?_
  obtain ⟨q5, hq5, hf⟩ := mm_bd hf
  refine mm_Vi (rest := []) hC hM (c_X3_placeOf l hq5 hp_this_fleet) q4_141 q1_4 ykX3_placeOf q5_80 q4_139 q4_140 hp_this_fleet.1 rfl ⟨rfl, rfl⟩ ⟨Nat.le_of_ble_eq_true rfl, Nat.le_of_ble_eq_true rfl⟩ rfl hl.1 rfl (Nat.le_of_ble_eq_true rfl) dX6_sailBy_5 ⟨Nat.le_of_ble_eq_true rfl, Nat.le_of_ble_eq_true rfl⟩ (fun r w5 H locs hM hw => ?_)
  obtain ⟨hr, hw⟩ := hw
  rw [hr]
  rw [hw] at hM
  refine lv_istore_n (lv' := [(3, .int q5), (0, .ref b), (1, .int x1), (2, .int x2)]) hx hb dX6_sailBy_8 rfl hl (by decide) rfl (fun ls hl => ?_)
  refine lv_iload_n hx hb dX6_sailBy_9 rfl (lv_at hl 0 rfl) ?_
  refine lv_iconst (v := (-1)) hx hb dX6_sailBy_10 (by decide) ?_
  refine lv_icmp_ne (tgt := 17) hx hb dX6_sailBy_11 (by decide) (fun hcd => ?_) (fun hcd => ?_)
  · rw [if_neg hcd] at hf
    refine lv_iload_n hx hb dX6_sailBy_17 rfl (lv_at hl 3 rfl) ?_
    obtain ⟨q18, hq18, hf⟩ := mm_bd hf
    refine mm_SNi (rest := []) hC hM (c_X12_isPlan l hq18) q4_211 q1_1 ykX12_isPlan q5_81 q4_210 ⟨rfl, rfl⟩ ⟨Nat.le_of_ble_eq_true rfl, Nat.le_of_ble_eq_true rfl⟩ rfl hl.1 rfl (Nat.le_of_ble_eq_true rfl) dX6_sailBy_18 ⟨Nat.le_of_ble_eq_true rfl, Nat.le_of_ble_eq_true rfl⟩ (fun r w18 H locs hM hw => ?_)
    obtain ⟨hr, hw⟩ := hw
    rw [hr]
    rw [hw] at hM
    refine lv_if_ne (tgt := 26) hx hb dX6_sailBy_21 (by decide) (fun hcd => ?_) (fun hcd => ?_)
    · rw [if_neg hcd] at hf
      refine lv_aload_n hx hb dX6_sailBy_26 rfl (lv_at hl 1 rfl) ?_
      refine lv_iload_n hx hb dX6_sailBy_27 rfl (lv_at hl 0 rfl) ?_
      refine lv_iload_n hx hb dX6_sailBy_28 rfl (lv_at hl 3 rfl) ?_
      obtain ⟨q29, hq29, hf⟩ := mm_bd hf
      refine mm_Vi (rest := []) hC hM (c_X6_blockedPosition l hq29 ⟨hc_this, hp_this_reeds, hp_this_fleet, hp_this_plans, hp_this_landings⟩) q5_85 q1_2 ykX6_blockedPosition q5_82 q5_83 q5_84 hc_this rfl ⟨rfl, rfl⟩ ⟨Nat.le_of_ble_eq_true rfl, Nat.le_of_ble_eq_true rfl⟩ rfl hl.1 rfl (Nat.le_of_ble_eq_true rfl) dX6_sailBy_29 ⟨Nat.le_of_ble_eq_true rfl, Nat.le_of_ble_eq_true rfl⟩ (fun r w29 H locs hM hw => ?_)
      obtain ⟨hr, hw⟩ := hw
      rw [hr]
      rw [hw] at hM
      refine lv_iconst (v := (-1)) hx hb dX6_sailBy_32 (by decide) ?_
      refine lv_icmp_eq (tgt := 39) hx hb dX6_sailBy_33 (by decide) (fun hcd => ?_) (fun hcd => ?_)
      · rw [if_pos hcd] at hf
        refine lv_aload_n hx hb dX6_sailBy_39 rfl (lv_at hl 1 rfl) ?_
        refine mm_get hC hM (k := 2) hc_this rfl inAX6 (by decide) q1_143 rfl dX6_sailBy_40 ?_
        refine mm_get hC hM (k := 1) hp_this_plans.1 rfl inAX8 (by decide) q1_116 rfl dX6_sailBy_43 ?_
        refine lv_iload_n hx hb dX6_sailBy_46 rfl (lv_at hl 3 rfl) ?_
        obtain ⟨hg47, hf⟩ := mm_gd hf
        refine mm_iald hC hM (hp_this_plans.2.2) hg47 dX6_sailBy_47 ?_
        refine lv_istore (lv' := [(4, .int (plans_lengths x2.toNatClampNeg)), (3, .int q5), (0, .ref b), (1, .int x1), (2, .int x2)]) hx hb dX6_sailBy_48 hl (by decide) rfl (fun ls hl => ?_)
        refine lv_iconst (v := 0) hx hb dX6_sailBy_50 (by decide) ?_
        refine lv_istore (lv' := [(5, .int 0), (4, .int (plans_lengths x2.toNatClampNeg)), (3, .int q5), (0, .ref b), (1, .int x1), (2, .int x2)]) hx hb dX6_sailBy_51 hl (by decide) rfl (fun ls hl => ?_)
        have L53 : ∀ (n : Nat) (L53_x5 : Int32) (L53_fleet_cells : Nat → Int32) (L53_fleet_meetings : Int32) (X : (Nat → Int32) × Int32), f_X6_sailBy_L53 plans_moves x2 q5 (plans_lengths x2.toNatClampNeg) n L53_x5 L53_fleet_cells L53_fleet_meetings = some X → ∀ (L53_w : va_W) (H : Heap) (locs : List Loc), mm_S G A s.heap L53_w H locs → (b, (.inr (6, [.ref (b + 1), .ref (b + 3), .ref (b + 7), .ref (b + 10), .int fogSide]) : va_E)) ∈ L53_w → At9 G L53_w (b + 1) reeds_states reeds_count reeds_broken → At3 G L53_w (b + 3) fleet_numbers L53_fleet_cells fleet_fares fleet_count fleet_nextNumber fleet_total fleet_removedFares L53_fleet_meetings → At8 G L53_w (b + 7) plans_moves plans_lengths → At5 G L53_w (b + 10) landings_cells landings_count → mm_fr w L53_w b (b + 12) → ∀ (ls : Array Slot), lv_has ls 6 [(0, .ref b), (2, .int x2), (3, .int q5), (4, .int (plans_lengths x2.toNatClampNeg)), (5, .int L53_x5)] → (∀ (w9 : va_W) (H : Heap) (locs : List Loc), mm_S G A s.heap w9 H locs → (b, (.inr (6, [.ref (b + 1), .ref (b + 3), .ref (b + 7), .ref (b + 10), .int fogSide]) : va_E)) ∈ w9 → At9 G w9 (b + 1) reeds_states reeds_count reeds_broken → At3 G w9 (b + 3) fleet_numbers X.1 fleet_fares fleet_count fleet_nextNumber fleet_total fleet_removedFares X.2 → At8 G w9 (b + 7) plans_moves plans_lengths → At5 G w9 (b + 10) landings_cells landings_count → mm_fr w w9 b (b + 12) → ∀ (ls : Array Slot), lv_has ls 6 [(0, .ref b), (3, .int q5), (4, .int (plans_lengths x2.toNatClampNeg))] → W p l e ({ frames := 3, cells := 0, slots := 0, locals := 69 } : Room) s m args below meth c H locs 0 0 Q (F0 m 84 ls [])) → W p l e ({ frames := 3, cells := 0, slots := 0, locals := 69 } : Room) s m args below meth c H locs 0 0 Q (F0 m 53 ls []) := by
          intro n
          induction n with
          | zero => intro L53_x5 L53_fleet_cells L53_fleet_meetings X hf; cases hf
          | succ n ih =>
            intro L53_x5 L53_fleet_cells L53_fleet_meetings X hf L53_w H locs hM hc_this hp_this_reeds hp_this_fleet hp_this_plans hp_this_landings hF ls hl hk
            rw [f_X6_sailBy_L53] at hf
            refine lv_iload hx hb dX6_sailBy_53 (lv_at hl 4 rfl) ?_
            refine lv_iload hx hb dX6_sailBy_55 (lv_at hl 3 rfl) ?_
            refine lv_icmp_ge (tgt := 84) hx hb dX6_sailBy_57 (by decide) (fun hcd => ?_) (fun hcd => ?_)
            · rw [if_pos hcd] at hf
              cases hf
              exact hk _ _ _ hM hc_this hp_this_reeds hp_this_fleet hp_this_plans hp_this_landings hF _ (lv_sub hl [0, 2, 3] rfl)
            · rw [if_neg hcd] at hf
              refine lv_aload_n hx hb dX6_sailBy_60 rfl (lv_at hl 0 rfl) ?_
              refine mm_get hC hM (k := 1) hc_this rfl inAX6 (by decide) q1_141 rfl dX6_sailBy_61 ?_
              refine lv_iload_n hx hb dX6_sailBy_64 rfl (lv_at hl 2 rfl) ?_
              refine lv_aload_n hx hb dX6_sailBy_65 rfl (lv_at hl 0 rfl) ?_
              refine mm_get hC hM (k := 2) hc_this rfl inAX6 (by decide) q1_143 rfl dX6_sailBy_66 ?_
              refine lv_iload_n hx hb dX6_sailBy_69 rfl (lv_at hl 1 rfl) ?_
              refine lv_iload hx hb dX6_sailBy_70 (lv_at hl 4 rfl) ?_
              obtain ⟨q72, hq72, hf⟩ := mm_bd hf
              refine mm_Vi (rest := [.int q5, .ref (b + 3)]) hC hM (c_X8_moveIn l hq72 hp_this_plans) q2_225 q1_5 ykX8_moveIn q5_86 q2_223 q2_224 hp_this_plans.1 rfl ⟨rfl, rfl⟩ ⟨Nat.le_of_ble_eq_true rfl, Nat.le_of_ble_eq_true rfl⟩ rfl hl.1 rfl (Nat.le_of_ble_eq_true rfl) dX6_sailBy_72 ⟨Nat.le_of_ble_eq_true rfl, Nat.le_of_ble_eq_true rfl⟩ (fun r w72 H locs hM hw => ?_)
              obtain ⟨hr, hw⟩ := hw
              rw [hr]
              rw [hw] at hM
              obtain ⟨q75, hq75, hf⟩ := mm_bd hf
              refine mm_Vv (rest := []) hC hM (c_X3_step l hq75 hp_this_fleet) q5_91 q1_4 ykX3_step q5_88 q5_89 q5_90 hp_this_fleet.1 rfl ⟨rfl, rfl⟩ ⟨Nat.le_of_ble_eq_true rfl, Nat.le_of_ble_eq_true rfl⟩ rfl hl.1 rfl (Nat.le_of_ble_eq_true rfl) dX6_sailBy_75 ⟨Nat.le_of_ble_eq_true rfl, Nat.le_of_ble_eq_true rfl⟩ (fun w75 H locs hM hw => ?_)
              obtain ⟨hn_this, hfr⟩ := hw
              have hc_this := hfr.keep hc_this (by omega)
              have hp_this_reeds := hp_this_reeds.keep hfr (by omega)
              have hp_this_plans := hp_this_plans.keep hfr (by omega)
              have hp_this_landings := hp_this_landings.keep hfr (by omega)
              have hp_this_fleet := hn_this
              have hF := hF.tr (hfr.wide (by omega) (by omega))
              refine lv_iinc (v := (L53_x5 + 1)) (lv' := [(5, .int (L53_x5 + 1)), (0, .ref b), (2, .int x2), (3, .int q5), (4, .int (plans_lengths x2.toNatClampNeg))]) hx hb dX6_sailBy_78 hl (k := 4) rfl rfl (by decide) rfl (fun ls hl => ?_)
              refine lv_goto (tgt := 53) hx hb dX6_sailBy_81 (by decide) ?_
              exact ih _ _ _ _ hf _ _ _ hM hc_this hp_this_reeds hp_this_fleet hp_this_plans hp_this_landings hF _ (lv_sub hl [1, 2, 3, 4, 0] rfl) hk
        obtain ⟨q53, hq53, hf⟩ := mm_bd hf
        refine L53 K _ _ _ _ hq53 _ _ _ hM hc_this hp_this_reeds hp_this_fleet hp_this_plans hp_this_landings hF _ (lv_sub hl [3, 5, 2, 1, 0] rfl) (fun w53 H locs hM hc_this hp_this_reeds hp_this_fleet hp_this_plans hp_this_landings hF ls hl => ?_)
        refine lv_iload hx hb dX6_sailBy_84 (lv_at hl 2 rfl) ?_
        refine lv_iconst (v := 2) hx hb dX6_sailBy_86 (by decide) ?_
        refine lv_irem hx hb dX6_sailBy_87 (by decide) ?_
        refine lv_if_ne (tgt := 98) hx hb dX6_sailBy_88 (by decide) (fun hcd => ?_) (fun hcd => ?_)
        · rw [if_neg hcd] at hf
          refine lv_iload hx hb dX6_sailBy_98 (lv_at hl 2 rfl) ?_
          refine lv_istore (lv' := [(5, .int (plans_lengths x2.toNatClampNeg)), (0, .ref b), (3, .int q5), (4, .int (plans_lengths x2.toNatClampNeg))]) hx hb dX6_sailBy_100 hl (by decide) rfl (fun ls hl => ?_)
          refine lv_aload_n hx hb dX6_sailBy_102 rfl (lv_at hl 1 rfl) ?_
          refine mm_get hC hM (k := 1) hc_this rfl inAX6 (by decide) q1_141 rfl dX6_sailBy_103 ?_
          refine lv_iload_n hx hb dX6_sailBy_106 rfl (lv_at hl 2 rfl) ?_
          refine lv_iload hx hb dX6_sailBy_107 (lv_at hl 0 rfl) ?_
          obtain ⟨q109, hq109, hf⟩ := mm_bd hf
          refine mm_Vv (rest := []) hC hM (c_X3_pay l hq109 hp_this_fleet) q5_97 q1_4 ykX3_pay q5_94 q5_95 q5_96 hp_this_fleet.1 rfl ⟨rfl, rfl⟩ ⟨Nat.le_of_ble_eq_true rfl, Nat.le_of_ble_eq_true rfl⟩ rfl hl.1 rfl (Nat.le_of_ble_eq_true rfl) dX6_sailBy_109 ⟨Nat.le_of_ble_eq_true rfl, Nat.le_of_ble_eq_true rfl⟩ (fun w109 H locs hM hw => ?_)
          obtain ⟨hn_this, hfr⟩ := hw
          have hc_this := hfr.keep hc_this (by omega)
          have hp_this_reeds := hp_this_reeds.keep hfr (by omega)
          have hp_this_plans := hp_this_plans.keep hfr (by omega)
          have hp_this_landings := hp_this_landings.keep hfr (by omega)
          have hp_this_fleet := hn_this
          have hF := hF.tr (hfr.wide (by omega) (by omega))
          refine lv_iload hx hb dX6_sailBy_112 (lv_at hl 0 rfl) ?_
          cases hf
          exact hret hM dX6_sailBy_114 rfl ⟨rfl, ⟨hc_this, hp_this_reeds, hp_this_fleet, hp_this_plans, hp_this_landings⟩, hF⟩
        · rw [if_pos hcd] at hf
          refine lv_iload hx hb dX6_sailBy_91 (lv_at hl 2 rfl) ?_
          refine lv_iconst (v := 1) hx hb dX6_sailBy_93 (by decide) ?_
          refine lv_iadd hx hb dX6_sailBy_94 ?_
          refine lv_goto (tgt := 100) hx hb dX6_sailBy_95 (by decide) ?_
          refine lv_istore (lv' := [(5, .int ((plans_lengths x2.toNatClampNeg) + 1)), (0, .ref b), (3, .int q5), (4, .int (plans_lengths x2.toNatClampNeg))]) hx hb dX6_sailBy_100 hl (by decide) rfl (fun ls hl => ?_)
          refine lv_aload_n hx hb dX6_sailBy_102 rfl (lv_at hl 1 rfl) ?_
          refine mm_get hC hM (k := 1) hc_this rfl inAX6 (by decide) q1_141 rfl dX6_sailBy_103 ?_
          refine lv_iload_n hx hb dX6_sailBy_106 rfl (lv_at hl 2 rfl) ?_
          refine lv_iload hx hb dX6_sailBy_107 (lv_at hl 0 rfl) ?_
          obtain ⟨q109, hq109, hf⟩ := mm_bd hf
          refine mm_Vv (rest := []) hC hM (c_X3_pay l hq109 hp_this_fleet) q5_97 q1_4 ykX3_pay q5_94 q5_95 q5_96 hp_this_fleet.1 rfl ⟨rfl, rfl⟩ ⟨Nat.le_of_ble_eq_true rfl, Nat.le_of_ble_eq_true rfl⟩ rfl hl.1 rfl (Nat.le_of_ble_eq_true rfl) dX6_sailBy_109 ⟨Nat.le_of_ble_eq_true rfl, Nat.le_of_ble_eq_true rfl⟩ (fun w109 H locs hM hw => ?_)
          obtain ⟨hn_this, hfr⟩ := hw
          have hc_this := hfr.keep hc_this (by omega)
          have hp_this_reeds := hp_this_reeds.keep hfr (by omega)
          have hp_this_plans := hp_this_plans.keep hfr (by omega)
          have hp_this_landings := hp_this_landings.keep hfr (by omega)
          have hp_this_fleet := hn_this
          have hF := hF.tr (hfr.wide (by omega) (by omega))
          refine lv_iload hx hb dX6_sailBy_112 (lv_at hl 0 rfl) ?_
          cases hf
          exact hret hM dX6_sailBy_114 rfl ⟨rfl, ⟨hc_this, hp_this_reeds, hp_this_fleet, hp_this_plans, hp_this_landings⟩, hF⟩
      · rw [if_neg hcd] at hf
        refine lv_bipush (v := (-5)) hx hb dX6_sailBy_36 (by decide) ?_
        cases hf
        exact hret hM dX6_sailBy_38 rfl ⟨rfl, ⟨hc_this, hp_this_reeds, hp_this_fleet, hp_this_plans, hp_this_landings⟩, hF⟩
    · rw [if_pos hcd] at hf
      refine lv_iconst (v := (-1)) hx hb dX6_sailBy_24 (by decide) ?_
      cases hf
      exact hret hM dX6_sailBy_25 rfl ⟨rfl, ⟨hc_this, hp_this_reeds, hp_this_fleet, hp_this_plans, hp_this_landings⟩, hF⟩
  · rw [if_pos hcd] at hf
    refine lv_bipush (v := (-2)) hx hb dX6_sailBy_14 (by decide) ?_
    cases hf
    exact hret hM dX6_sailBy_16 rfl ⟨rfl, ⟨hc_this, hp_this_reeds, hp_this_fleet, hp_this_plans, hp_this_landings⟩, hF⟩
def f_X6_layWay_L117 (K : Nat) (p1_found : Nat → Int32) (x5 : Int32) : Nat → (Int32) → (Int32) → (Nat → Int32) → (Nat → Int32) → Option ((Nat → Int32) × (Nat → Int32))
  | 0, _, _, _, _ => none
  | n + 1, x10, x11, plans_moves, plans_lengths => if x11 < 0 then some (plans_moves, plans_lengths) else if x10 = (-1) then some (plans_moves, plans_lengths) else (f_X11_firstMoveTo K p1_found x10 x11).bind fun q133 => (f_X12_letter q133).bind fun q146 => (f_X8_extend K plans_moves plans_lengths x5 q146).bind fun q149 => (f_X12_neighbour x10 q133).bind fun q157 => f_X6_layWay_L117 K p1_found x5 n q157 (x11 + (-1)) q149.2.1 q149.2.2
def f_X6_layWay (K : Nat) (reeds_states : Nat → Int32) (fleet_numbers : Nat → Int32) (fleet_cells : Nat → Int32) (fleet_count : Int32) (plans_moves : Nat → Int32) (plans_lengths : Nat → Int32) (p1_tolls : Nat → Int32) (p1_queue : Nat → Int32) (p1_found : Nat → Int32) (x2 : Int32) (x3 : Int32) (x4 : Int32) (x5 : Int32) : Option (Int32 × (Nat → Int32) × (Nat → Int32) × (Nat → Int32) × (Nat → Int32) × (Nat → Int32)) := (f_X3_placeOf K fleet_numbers fleet_count x2).bind fun q5 => if q5 = (-1) then some ((-2), plans_moves, plans_lengths, p1_tolls, p1_queue, p1_found) else (f_X12_cellAt x3 x4).bind fun q22 => if q22 = (-1) then some ((-1), plans_moves, plans_lengths, p1_tolls, p1_queue, p1_found) else mm_g (mm_ck q5 4) ((f_X11_setPlainTolls K p1_tolls reeds_states).bind fun q49 => (f_X11_searchByBreadth K q49 p1_queue p1_found q22).bind fun q55 => mm_g (mm_ck (fleet_cells q5.toNatClampNeg) 81) (if (q55.2 (fleet_cells q5.toNatClampNeg).toNatClampNeg) < 1000000 then (f_X12_isPlan x5).bind fun q79 => if q79 = 0 then some ((-1), plans_moves, plans_lengths, q49, q55.1, q55.2) else if (q55.2 (fleet_cells q5.toNatClampNeg).toNatClampNeg) ≤ 20 then (f_X8_empty plans_lengths x5).bind fun q103 => (f_X6_layWay_L117 K q55.2 x5 K (fleet_cells q5.toNatClampNeg) ((q55.2 (fleet_cells q5.toNatClampNeg).toNatClampNeg) - 1) plans_moves q103.2).bind fun q117 => some ((q55.2 (fleet_cells q5.toNatClampNeg).toNatClampNeg), q117.1, q117.2, q49, q55.1, q55.2) else some ((-3), plans_moves, plans_lengths, q49, q55.1, q55.2) else some ((-2), plans_moves, plans_lengths, q49, q55.1, q55.2)))
set_option maxHeartbeats 4000000 in
set_option maxRecDepth 100000 in
theorem c_X6_layWay (l : Launch) {G : mm_G} {K : Nat} {w : va_W} {sz : Nat} {b : Nat} {b1 : Nat} {reeds_states : Nat → Int32} {reeds_count : Int32} {reeds_broken : Int32} {fleet_numbers : Nat → Int32} {fleet_cells : Nat → Int32} {fleet_fares : Nat → Int32} {fleet_count : Int32} {fleet_nextNumber : Int32} {fleet_total : Int32} {fleet_removedFares : Int32} {fleet_meetings : Int32} {plans_moves : Nat → Int32} {plans_lengths : Nat → Int32} {landings_cells : Nat → Int32} {landings_count : Int32} {fogSide : Int32} {p1_tolls : Nat → Int32} {p1_queue : Nat → Int32} {p1_heap : Nat → Int32} {p1_heapSize : Int32} {p1_found : Nat → Int32} {p1_improved : Nat → Int32} {x2 : Int32} {x3 : Int32} {x4 : Int32} {x5 : Int32} {X : Int32 × (Nat → Int32) × (Nat → Int32) × (Nat → Int32) × (Nat → Int32) × (Nat → Int32)} (hf : f_X6_layWay K reeds_states fleet_numbers fleet_cells fleet_count plans_moves plans_lengths p1_tolls p1_queue p1_found x2 x3 x4 x5 = some X) (hp_this : At6 G w b reeds_states reeds_count reeds_broken fleet_numbers fleet_cells fleet_fares fleet_count fleet_nextNumber fleet_total fleet_removedFares fleet_meetings plans_moves plans_lengths landings_cells landings_count fogSide) (hp_p1 : At11 G w b1 p1_tolls p1_queue p1_heap p1_heapSize p1_found p1_improved) (hd0 : b + 12 ≤ b1 ∨ b1 + 6 ≤ b) : Met l yX6_layWay (Cond.code yX6_layWay cX6_layWay 13 (some .int) :: gAll) ({ frames := 4, cells := 0, slots := 0, locals := 93 }) (va_Pc [.ref b, .ref b1, .int x2, .int x3, .int x4, .int x5] (mm_Pre G w sz)) (mm_Qi G w sz (fun r w' => r = X.1 ∧ At6 G w' b reeds_states reeds_count reeds_broken fleet_numbers fleet_cells fleet_fares fleet_count fleet_nextNumber fleet_total fleet_removedFares fleet_meetings X.2.1 X.2.2.1 landings_cells landings_count fogSide ∧ At11 G w' b1 X.2.2.2.1 X.2.2.2.2.1 p1_heap p1_heapSize X.2.2.2.2.2 p1_improved ∧ mm_fr2 w w' b (b + 12) b1 (b1 + 6))) 0 0 (va_A w sz) := by
  refine mm_headI [.ref b, .ref b1, .int x2, .int x3, .int x4, .int x5] (by decide +kernel) rfl (Nat.le_of_ble_eq_true rfl) ?_
  intro p e s m args below meth c A Q hsz hC hM hret ls hl
  have hx := hC.1.1
  have hb := hC.1.2.1
  have hl : lv_has ls 13 [(0, .ref b), (1, .ref b1), (2, .int x2), (3, .int x3), (4, .int x4), (5, .int x5)] := hl
  have hF : mm_fr2 w w b (b + 12) b1 (b1 + 6) := mm_fr2.rf
  rw [f_X6_layWay] at hf
  obtain ⟨hc_this, hp_this_reeds, hp_this_fleet, hp_this_plans, hp_this_landings⟩ := hp_this
  refine lv_aload_n hx hb dX6_layWay_0 rfl (lv_at hl 0 rfl) ?_
  refine mm_get hC hM (k := 1) hc_this rfl inAX6 (by decide) q1_141 rfl dX6_layWay_1 ?_
  refine lv_iload_n hx hb dX6_layWay_4 rfl (lv_at hl 2 rfl) ?_
  obtain ⟨q5, hq5, hf⟩ := mm_bd hf
  refine mm_Vi (rest := []) hC hM (c_X3_placeOf l hq5 hp_this_fleet) q4_141 q1_4 ykX3_placeOf q5_80 q4_139 q4_140 hp_this_fleet.1 rfl ⟨rfl, rfl⟩ ⟨Nat.le_of_ble_eq_true rfl, Nat.le_of_ble_eq_true rfl⟩ rfl hl.1 rfl (Nat.le_of_ble_eq_true rfl) dX6_layWay_5 ⟨Nat.le_of_ble_eq_true rfl, Nat.le_of_ble_eq_true rfl⟩ (fun r w5 H locs hM hw => ?_)
  obtain ⟨hr, hw⟩ := hw
  rw [hr]
  rw [hw] at hM
  refine lv_istore (lv' := [(6, .int q5), (0, .ref b), (1, .ref b1), (2, .int x2), (3, .int x3), (4, .int x4), (5, .int x5)]) hx hb dX6_layWay_8 hl (by decide) rfl (fun ls hl => ?_)
  refine lv_iload hx hb dX6_layWay_10 (lv_at hl 0 rfl) ?_
  refine lv_iconst (v := (-1)) hx hb dX6_layWay_12 (by decide) ?_
  refine lv_icmp_ne (tgt := 19) hx hb dX6_layWay_13 (by decide) (fun hcd => ?_) (fun hcd => ?_)
  · rw [if_neg hcd] at hf
    refine lv_iload_n hx hb dX6_layWay_19 rfl (lv_at hl 4 rfl) ?_
    refine lv_iload hx hb dX6_layWay_20 (lv_at hl 5 rfl) ?_
    obtain ⟨q22, hq22, hf⟩ := mm_bd hf
    refine mm_SNi (rest := []) hC hM (c_X12_cellAt l hq22) q2_166 q1_1 ykX12_cellAt q3_184 q2_165 ⟨rfl, rfl⟩ ⟨Nat.le_of_ble_eq_true rfl, Nat.le_of_ble_eq_true rfl⟩ rfl hl.1 rfl (Nat.le_of_ble_eq_true rfl) dX6_layWay_22 ⟨Nat.le_of_ble_eq_true rfl, Nat.le_of_ble_eq_true rfl⟩ (fun r w22 H locs hM hw => ?_)
    obtain ⟨hr, hw⟩ := hw
    rw [hr]
    rw [hw] at hM
    refine lv_istore (lv' := [(7, .int q22), (6, .int q5), (0, .ref b), (1, .ref b1), (2, .int x2), (3, .int x3), (4, .int x4), (5, .int x5)]) hx hb dX6_layWay_25 hl (by decide) rfl (fun ls hl => ?_)
    refine lv_iload hx hb dX6_layWay_27 (lv_at hl 0 rfl) ?_
    refine lv_iconst (v := (-1)) hx hb dX6_layWay_29 (by decide) ?_
    refine lv_icmp_ne (tgt := 35) hx hb dX6_layWay_30 (by decide) (fun hcd => ?_) (fun hcd => ?_)
    · rw [if_neg hcd] at hf
      refine lv_aload_n hx hb dX6_layWay_35 rfl (lv_at hl 2 rfl) ?_
      refine mm_get hC hM (k := 1) hc_this rfl inAX6 (by decide) q1_141 rfl dX6_layWay_36 ?_
      refine mm_get hC hM (k := 1) hp_this_fleet.1 rfl inAX3 (by decide) q1_77 rfl dX6_layWay_39 ?_
      refine lv_iload hx hb dX6_layWay_42 (lv_at hl 1 rfl) ?_
      obtain ⟨hg44, hf⟩ := mm_gd hf
      refine mm_iald hC hM (hp_this_fleet.2.2.1) hg44 dX6_layWay_44 ?_
      refine lv_istore (lv' := [(8, .int (fleet_cells q5.toNatClampNeg)), (7, .int q22), (6, .int q5), (0, .ref b), (1, .ref b1), (2, .int x2), (3, .int x3), (4, .int x4), (5, .int x5)]) hx hb dX6_layWay_45 hl (by decide) rfl (fun ls hl => ?_)
      refine lv_aload_n hx hb dX6_layWay_47 rfl (lv_at hl 4 rfl) ?_
      refine lv_aload_n hx hb dX6_layWay_48 rfl (lv_at hl 3 rfl) ?_
      obtain ⟨q49, hq49, hf⟩ := mm_bd hf
      refine mm_Vv (rest := []) hC hM (c_X11_setPlainTolls l hq49 hp_p1 ⟨hc_this, hp_this_reeds, hp_this_fleet, hp_this_plans, hp_this_landings⟩ (by omega)) q2_142 q1_8 ykX11_setPlainTolls q5_164 q2_140 q2_141 hp_p1.1 rfl ⟨rfl, rfl⟩ ⟨Nat.le_of_ble_eq_true rfl, Nat.le_of_ble_eq_true rfl⟩ rfl hl.1 rfl (Nat.le_of_ble_eq_true rfl) dX6_layWay_49 ⟨Nat.le_of_ble_eq_true rfl, Nat.le_of_ble_eq_true rfl⟩ (fun w49 H locs hM hw => ?_)
      obtain ⟨hn_this, hfr⟩ := hw
      have hc_this := hfr.keep hc_this (by omega)
      have hp_this_reeds := hp_this_reeds.keep hfr (by omega)
      have hp_this_fleet := hp_this_fleet.keep hfr (by omega)
      have hp_this_plans := hp_this_plans.keep hfr (by omega)
      have hp_this_landings := hp_this_landings.keep hfr (by omega)
      have hp_p1 := hn_this
      have hF := hF.tr (hfr.r (by omega) (by omega))
      refine lv_aload_n hx hb dX6_layWay_52 rfl (lv_at hl 4 rfl) ?_
      refine lv_iload hx hb dX6_layWay_53 (lv_at hl 1 rfl) ?_
      obtain ⟨q55, hq55, hf⟩ := mm_bd hf
      refine mm_Vv (rest := []) hC hM (c_X11_searchByBreadth l hq55 hp_p1) q2_147 q1_8 ykX11_searchByBreadth q5_165 q2_145 q2_146 hp_p1.1 rfl ⟨rfl, rfl⟩ ⟨Nat.le_of_ble_eq_true rfl, Nat.le_of_ble_eq_true rfl⟩ rfl hl.1 rfl (Nat.le_of_ble_eq_true rfl) dX6_layWay_55 ⟨Nat.le_of_ble_eq_true rfl, Nat.le_of_ble_eq_true rfl⟩ (fun w55 H locs hM hw => ?_)
      obtain ⟨hn_this, hfr⟩ := hw
      have hc_this := hfr.keep hc_this (by omega)
      have hp_this_reeds := hp_this_reeds.keep hfr (by omega)
      have hp_this_fleet := hp_this_fleet.keep hfr (by omega)
      have hp_this_plans := hp_this_plans.keep hfr (by omega)
      have hp_this_landings := hp_this_landings.keep hfr (by omega)
      have hp_p1 := hn_this
      have hF := hF.tr (hfr.r (by omega) (by omega))
      refine lv_aload_n hx hb dX6_layWay_58 rfl (lv_at hl 4 rfl) ?_
      refine mm_get hC hM (k := 4) hp_p1.1 rfl inAX11 (by decide) q1_191 rfl dX6_layWay_59 ?_
      refine lv_iload hx hb dX6_layWay_62 (lv_at hl 0 rfl) ?_
      obtain ⟨hg64, hf⟩ := mm_gd hf
      refine mm_iald hC hM (hp_p1.2.2.2.2.1) hg64 dX6_layWay_64 ?_
      refine lv_istore (lv' := [(9, .int (q55.2 (fleet_cells q5.toNatClampNeg).toNatClampNeg)), (8, .int (fleet_cells q5.toNatClampNeg)), (7, .int q22), (6, .int q5), (0, .ref b), (1, .ref b1), (2, .int x2), (3, .int x3), (4, .int x4), (5, .int x5)]) hx hb dX6_layWay_65 hl (by decide) rfl (fun ls hl => ?_)
      refine lv_iload hx hb dX6_layWay_67 (lv_at hl 0 rfl) ?_
      refine lv_ldc hx hb hC.1.2.2.2.1 (hC.1.2.2.2.2 _ q5_166) dX6_layWay_69 ?_
      refine lv_icmp_lt (tgt := 77) hx hb dX6_layWay_71 (by decide) (fun hcd => ?_) (fun hcd => ?_)
      · rw [if_pos hcd] at hf
        refine lv_iload hx hb dX6_layWay_77 (lv_at hl 9 rfl) ?_
        obtain ⟨q79, hq79, hf⟩ := mm_bd hf
        refine mm_SNi (rest := []) hC hM (c_X12_isPlan l hq79) q4_211 q1_1 ykX12_isPlan q5_81 q4_210 ⟨rfl, rfl⟩ ⟨Nat.le_of_ble_eq_true rfl, Nat.le_of_ble_eq_true rfl⟩ rfl hl.1 rfl (Nat.le_of_ble_eq_true rfl) dX6_layWay_79 ⟨Nat.le_of_ble_eq_true rfl, Nat.le_of_ble_eq_true rfl⟩ (fun r w79 H locs hM hw => ?_)
        obtain ⟨hr, hw⟩ := hw
        rw [hr]
        rw [hw] at hM
        refine lv_if_ne (tgt := 87) hx hb dX6_layWay_82 (by decide) (fun hcd => ?_) (fun hcd => ?_)
        · rw [if_neg hcd] at hf
          refine lv_iload hx hb dX6_layWay_87 (lv_at hl 0 rfl) ?_
          refine lv_bipush (v := 20) hx hb dX6_layWay_89 (by decide) ?_
          refine lv_icmp_le (tgt := 97) hx hb dX6_layWay_91 (by decide) (fun hcd => ?_) (fun hcd => ?_)
          · rw [if_pos hcd] at hf
            refine lv_aload_n hx hb dX6_layWay_97 rfl (lv_at hl 4 rfl) ?_
            refine mm_get hC hM (k := 2) hc_this rfl inAX6 (by decide) q1_143 rfl dX6_layWay_98 ?_
            refine lv_iload hx hb dX6_layWay_101 (lv_at hl 9 rfl) ?_
            obtain ⟨q103, hq103, hf⟩ := mm_bd hf
            refine mm_Vi (rest := []) hC hM (c_X8_empty l hq103 hp_this_plans) q4_231 q1_5 ykX8_empty q5_167 q4_229 q4_230 hp_this_plans.1 rfl ⟨rfl, rfl⟩ ⟨Nat.le_of_ble_eq_true rfl, Nat.le_of_ble_eq_true rfl⟩ rfl hl.1 rfl (Nat.le_of_ble_eq_true rfl) dX6_layWay_103 ⟨Nat.le_of_ble_eq_true rfl, Nat.le_of_ble_eq_true rfl⟩ (fun r w103 H locs hM hw => ?_)
            obtain ⟨hr, hn_this, hfr⟩ := hw
            rw [hr]
            have hp_p1 := hp_p1.keep hfr (by omega)
            have hc_this := hfr.keep hc_this (by omega)
            have hp_this_reeds := hp_this_reeds.keep hfr (by omega)
            have hp_this_fleet := hp_this_fleet.keep hfr (by omega)
            have hp_this_landings := hp_this_landings.keep hfr (by omega)
            have hp_this_plans := hn_this
            have hF := hF.tr (hfr.l (by omega) (by omega))
            refine lv_pop hx hb dX6_layWay_106 rfl ?_
            refine lv_iload hx hb dX6_layWay_107 (lv_at hl 1 rfl) ?_
            refine lv_istore (lv' := [(10, .int (fleet_cells q5.toNatClampNeg)), (9, .int (q55.2 (fleet_cells q5.toNatClampNeg).toNatClampNeg)), (8, .int (fleet_cells q5.toNatClampNeg)), (7, .int q22), (6, .int q5), (0, .ref b), (1, .ref b1), (2, .int x2), (3, .int x3), (4, .int x4), (5, .int x5)]) hx hb dX6_layWay_109 hl (by decide) rfl (fun ls hl => ?_)
            refine lv_iload hx hb dX6_layWay_111 (lv_at hl 1 rfl) ?_
            refine lv_iconst (v := 1) hx hb dX6_layWay_113 (by decide) ?_
            refine lv_isub hx hb dX6_layWay_114 ?_
            refine lv_istore (lv' := [(11, .int ((q55.2 (fleet_cells q5.toNatClampNeg).toNatClampNeg) - 1)), (10, .int (fleet_cells q5.toNatClampNeg)), (9, .int (q55.2 (fleet_cells q5.toNatClampNeg).toNatClampNeg)), (8, .int (fleet_cells q5.toNatClampNeg)), (7, .int q22), (6, .int q5), (0, .ref b), (1, .ref b1), (2, .int x2), (3, .int x3), (4, .int x4), (5, .int x5)]) hx hb dX6_layWay_115 hl (by decide) rfl (fun ls hl => ?_)
            have L117 : ∀ (n : Nat) (L117_x10 : Int32) (L117_x11 : Int32) (L117_plans_moves : Nat → Int32) (L117_plans_lengths : Nat → Int32) (X : (Nat → Int32) × (Nat → Int32)), f_X6_layWay_L117 K q55.2 x5 n L117_x10 L117_x11 L117_plans_moves L117_plans_lengths = some X → ∀ (L117_w : va_W) (H : Heap) (locs : List Loc), mm_S G A s.heap L117_w H locs → At11 G L117_w b1 q49 q55.1 p1_heap p1_heapSize q55.2 p1_improved → (b, (.inr (6, [.ref (b + 1), .ref (b + 3), .ref (b + 7), .ref (b + 10), .int fogSide]) : va_E)) ∈ L117_w → At9 G L117_w (b + 1) reeds_states reeds_count reeds_broken → At3 G L117_w (b + 3) fleet_numbers fleet_cells fleet_fares fleet_count fleet_nextNumber fleet_total fleet_removedFares fleet_meetings → At8 G L117_w (b + 7) L117_plans_moves L117_plans_lengths → At5 G L117_w (b + 10) landings_cells landings_count → mm_fr2 w L117_w b (b + 12) b1 (b1 + 6) → ∀ (ls : Array Slot), lv_has ls 13 [(0, .ref b), (1, .ref b1), (5, .int x5), (9, .int (q55.2 (fleet_cells q5.toNatClampNeg).toNatClampNeg)), (10, .int L117_x10), (11, .int L117_x11)] → (∀ (w9 : va_W) (H : Heap) (locs : List Loc), mm_S G A s.heap w9 H locs → At11 G w9 b1 q49 q55.1 p1_heap p1_heapSize q55.2 p1_improved → (b, (.inr (6, [.ref (b + 1), .ref (b + 3), .ref (b + 7), .ref (b + 10), .int fogSide]) : va_E)) ∈ w9 → At9 G w9 (b + 1) reeds_states reeds_count reeds_broken → At3 G w9 (b + 3) fleet_numbers fleet_cells fleet_fares fleet_count fleet_nextNumber fleet_total fleet_removedFares fleet_meetings → At8 G w9 (b + 7) X.1 X.2 → At5 G w9 (b + 10) landings_cells landings_count → mm_fr2 w w9 b (b + 12) b1 (b1 + 6) → ∀ (ls : Array Slot), lv_has ls 13 [(9, .int (q55.2 (fleet_cells q5.toNatClampNeg).toNatClampNeg))] → W p l e ({ frames := 4, cells := 0, slots := 0, locals := 93 } : Room) s m args below meth c H locs 0 0 Q (F0 m 168 ls [])) → W p l e ({ frames := 4, cells := 0, slots := 0, locals := 93 } : Room) s m args below meth c H locs 0 0 Q (F0 m 117 ls []) := by
              intro n
              induction n with
              | zero => intro L117_x10 L117_x11 L117_plans_moves L117_plans_lengths X hf; cases hf
              | succ n ih =>
                intro L117_x10 L117_x11 L117_plans_moves L117_plans_lengths X hf L117_w H locs hM hp_p1 hc_this hp_this_reeds hp_this_fleet hp_this_plans hp_this_landings hF ls hl hk
                rw [f_X6_layWay_L117] at hf
                refine lv_iload hx hb dX6_layWay_117 (lv_at hl 5 rfl) ?_
                refine lv_if_lt (tgt := 168) hx hb dX6_layWay_119 (by decide) (fun hcd => ?_) (fun hcd => ?_)
                · rw [if_pos hcd] at hf
                  cases hf
                  exact hk _ _ _ hM hp_p1 hc_this hp_this_reeds hp_this_fleet hp_this_plans hp_this_landings hF _ (lv_sub hl [3] rfl)
                · rw [if_neg hcd] at hf
                  refine lv_iload hx hb dX6_layWay_122 (lv_at hl 4 rfl) ?_
                  refine lv_iconst (v := (-1)) hx hb dX6_layWay_124 (by decide) ?_
                  refine lv_icmp_eq (tgt := 168) hx hb dX6_layWay_125 (by decide) (fun hcd => ?_) (fun hcd => ?_)
                  · rw [if_pos hcd] at hf
                    cases hf
                    exact hk _ _ _ hM hp_p1 hc_this hp_this_reeds hp_this_fleet hp_this_plans hp_this_landings hF _ (lv_sub hl [3] rfl)
                  · rw [if_neg hcd] at hf
                    refine lv_aload_n hx hb dX6_layWay_128 rfl (lv_at hl 1 rfl) ?_
                    refine lv_iload hx hb dX6_layWay_129 (lv_at hl 4 rfl) ?_
                    refine lv_iload hx hb dX6_layWay_131 (lv_at hl 5 rfl) ?_
                    obtain ⟨q133, hq133, hf⟩ := mm_bd hf
                    refine mm_Vi (rest := []) hC hM (c_X11_firstMoveTo l hq133 hp_p1) q5_171 q1_8 ykX11_firstMoveTo q5_168 q5_169 q5_170 hp_p1.1 rfl ⟨rfl, rfl⟩ ⟨Nat.le_of_ble_eq_true rfl, Nat.le_of_ble_eq_true rfl⟩ rfl hl.1 rfl (Nat.le_of_ble_eq_true rfl) dX6_layWay_133 ⟨Nat.le_of_ble_eq_true rfl, Nat.le_of_ble_eq_true rfl⟩ (fun r w133 H locs hM hw => ?_)
                    obtain ⟨hr, hw⟩ := hw
                    rw [hr]
                    rw [hw] at hM
                    refine lv_istore (lv' := [(12, .int q133), (0, .ref b), (1, .ref b1), (5, .int x5), (9, .int (q55.2 (fleet_cells q5.toNatClampNeg).toNatClampNeg)), (10, .int L117_x10), (11, .int L117_x11)]) hx hb dX6_layWay_136 hl (by decide) rfl (fun ls hl => ?_)
                    refine lv_aload_n hx hb dX6_layWay_138 rfl (lv_at hl 1 rfl) ?_
                    refine mm_get hC hM (k := 2) hc_this rfl inAX6 (by decide) q1_143 rfl dX6_layWay_139 ?_
                    refine lv_iload hx hb dX6_layWay_142 (lv_at hl 3 rfl) ?_
                    refine lv_iload hx hb dX6_layWay_144 (lv_at hl 0 rfl) ?_
                    obtain ⟨q146, hq146, hf⟩ := mm_bd hf
                    refine mm_SNi (rest := [.int x5, .ref (b + 7)]) hC hM (c_X12_letter l hq146) q5_57 q1_1 ykX12_letter q5_172 q5_56 ⟨rfl, rfl⟩ ⟨Nat.le_of_ble_eq_true rfl, Nat.le_of_ble_eq_true rfl⟩ rfl hl.1 rfl (Nat.le_of_ble_eq_true rfl) dX6_layWay_146 ⟨Nat.le_of_ble_eq_true rfl, Nat.le_of_ble_eq_true rfl⟩ (fun r w146 H locs hM hw => ?_)
                    obtain ⟨hr, hw⟩ := hw
                    rw [hr]
                    rw [hw] at hM
                    obtain ⟨q149, hq149, hf⟩ := mm_bd hf
                    refine mm_Vi (rest := []) hC hM (c_X8_extend l hq149 hp_this_plans) q4_208 q1_5 ykX8_extend q5_173 q4_206 q4_207 hp_this_plans.1 rfl ⟨rfl, rfl⟩ ⟨Nat.le_of_ble_eq_true rfl, Nat.le_of_ble_eq_true rfl⟩ rfl hl.1 rfl (Nat.le_of_ble_eq_true rfl) dX6_layWay_149 ⟨Nat.le_of_ble_eq_true rfl, Nat.le_of_ble_eq_true rfl⟩ (fun r w149 H locs hM hw => ?_)
                    obtain ⟨hr, hn_this, hfr⟩ := hw
                    rw [hr]
                    have hp_p1 := hp_p1.keep hfr (by omega)
                    have hc_this := hfr.keep hc_this (by omega)
                    have hp_this_reeds := hp_this_reeds.keep hfr (by omega)
                    have hp_this_fleet := hp_this_fleet.keep hfr (by omega)
                    have hp_this_landings := hp_this_landings.keep hfr (by omega)
                    have hp_this_plans := hn_this
                    have hF := hF.tr (hfr.l (by omega) (by omega))
                    refine lv_pop hx hb dX6_layWay_152 rfl ?_
                    refine lv_iload hx hb dX6_layWay_153 (lv_at hl 5 rfl) ?_
                    refine lv_iload hx hb dX6_layWay_155 (lv_at hl 0 rfl) ?_
                    obtain ⟨q157, hq157, hf⟩ := mm_bd hf
                    refine mm_SNi (rest := []) hC hM (c_X12_neighbour l hq157) q2_159 q1_1 ykX12_neighbour q5_87 q2_158 ⟨rfl, rfl⟩ ⟨Nat.le_of_ble_eq_true rfl, Nat.le_of_ble_eq_true rfl⟩ rfl hl.1 rfl (Nat.le_of_ble_eq_true rfl) dX6_layWay_157 ⟨Nat.le_of_ble_eq_true rfl, Nat.le_of_ble_eq_true rfl⟩ (fun r w157 H locs hM hw => ?_)
                    obtain ⟨hr, hw⟩ := hw
                    rw [hr]
                    rw [hw] at hM
                    refine lv_istore (lv' := [(10, .int q157), (12, .int q133), (0, .ref b), (1, .ref b1), (5, .int x5), (9, .int (q55.2 (fleet_cells q5.toNatClampNeg).toNatClampNeg)), (11, .int L117_x11)]) hx hb dX6_layWay_160 hl (by decide) rfl (fun ls hl => ?_)
                    refine lv_iinc (v := (L117_x11 + (-1))) (lv' := [(11, .int (L117_x11 + (-1))), (10, .int q157), (12, .int q133), (0, .ref b), (1, .ref b1), (5, .int x5), (9, .int (q55.2 (fleet_cells q5.toNatClampNeg).toNatClampNeg))]) hx hb dX6_layWay_162 hl (k := 6) rfl rfl (by decide) rfl (fun ls hl => ?_)
                    refine lv_goto (tgt := 117) hx hb dX6_layWay_165 (by decide) ?_
                    exact ih _ _ _ _ _ hf _ _ _ hM hp_p1 hc_this hp_this_reeds hp_this_fleet hp_this_plans hp_this_landings hF _ (lv_sub hl [3, 4, 5, 6, 1, 0] rfl) hk
            obtain ⟨q117, hq117, hf⟩ := mm_bd hf
            refine L117 K _ _ _ _ _ hq117 _ _ _ hM hp_p1 hc_this hp_this_reeds hp_this_fleet hp_this_plans hp_this_landings hF _ (lv_sub hl [6, 7, 11, 2, 1, 0] rfl) (fun w117 H locs hM hp_p1 hc_this hp_this_reeds hp_this_fleet hp_this_plans hp_this_landings hF ls hl => ?_)
            refine lv_iload hx hb dX6_layWay_168 (lv_at hl 0 rfl) ?_
            cases hf
            exact hret hM dX6_layWay_170 rfl ⟨rfl, ⟨hc_this, hp_this_reeds, hp_this_fleet, hp_this_plans, hp_this_landings⟩, hp_p1, hF⟩
          · rw [if_neg hcd] at hf
            refine lv_bipush (v := (-3)) hx hb dX6_layWay_94 (by decide) ?_
            cases hf
            exact hret hM dX6_layWay_96 rfl ⟨rfl, ⟨hc_this, hp_this_reeds, hp_this_fleet, hp_this_plans, hp_this_landings⟩, hp_p1, hF⟩
        · rw [if_pos hcd] at hf
          refine lv_iconst (v := (-1)) hx hb dX6_layWay_85 (by decide) ?_
          cases hf
          exact hret hM dX6_layWay_86 rfl ⟨rfl, ⟨hc_this, hp_this_reeds, hp_this_fleet, hp_this_plans, hp_this_landings⟩, hp_p1, hF⟩
      · rw [if_neg hcd] at hf
        refine lv_bipush (v := (-2)) hx hb dX6_layWay_74 (by decide) ?_
        cases hf
        exact hret hM dX6_layWay_76 rfl ⟨rfl, ⟨hc_this, hp_this_reeds, hp_this_fleet, hp_this_plans, hp_this_landings⟩, hp_p1, hF⟩
    · rw [if_pos hcd] at hf
      refine lv_iconst (v := (-1)) hx hb dX6_layWay_33 (by decide) ?_
      cases hf
      exact hret hM dX6_layWay_34 rfl ⟨rfl, ⟨hc_this, hp_this_reeds, hp_this_fleet, hp_this_plans, hp_this_landings⟩, hp_p1, hF⟩
  · rw [if_pos hcd] at hf
    refine lv_bipush (v := (-2)) hx hb dX6_layWay_16 (by decide) ?_
    cases hf
    exact hret hM dX6_layWay_18 rfl ⟨rfl, ⟨hc_this, hp_this_reeds, hp_this_fleet, hp_this_plans, hp_this_landings⟩, hp_p1, hF⟩
def f_X6_signOf (K : Nat) (reeds_states : Nat → Int32) (fleet_numbers : Nat → Int32) (fleet_cells : Nat → Int32) (fleet_count : Int32) (x1 : Int32) : Option (Int32) := (f_X3_placeIn K fleet_cells fleet_count x1).bind fun q5 => if q5 = (-1) then (f_X12_image x1).bind fun q36 => (f_X3_placeIn K fleet_cells fleet_count q36).bind fun q39 => if q39 = (-1) then (f_X9_stateOf reeds_states x1).bind fun q54 => if q54 = 1 then some 35 else if q54 = 2 then some 39 else some 46 else some 126 else mm_g (mm_ck q5 4) (some (((48 + ((fleet_numbers q5.toNatClampNeg) - (fleet_numbers q5.toNatClampNeg) / 10 * 10)).toUInt32 % 65536).toInt32))
set_option maxHeartbeats 4000000 in
set_option maxRecDepth 100000 in
theorem c_X6_signOf (l : Launch) {G : mm_G} {K : Nat} {w : va_W} {sz : Nat} {b : Nat} {reeds_states : Nat → Int32} {reeds_count : Int32} {reeds_broken : Int32} {fleet_numbers : Nat → Int32} {fleet_cells : Nat → Int32} {fleet_fares : Nat → Int32} {fleet_count : Int32} {fleet_nextNumber : Int32} {fleet_total : Int32} {fleet_removedFares : Int32} {fleet_meetings : Int32} {plans_moves : Nat → Int32} {plans_lengths : Nat → Int32} {landings_cells : Nat → Int32} {landings_count : Int32} {fogSide : Int32} {x1 : Int32} {X : Int32} (hf : f_X6_signOf K reeds_states fleet_numbers fleet_cells fleet_count x1 = some X) (hp_this : At6 G w b reeds_states reeds_count reeds_broken fleet_numbers fleet_cells fleet_fares fleet_count fleet_nextNumber fleet_total fleet_removedFares fleet_meetings plans_moves plans_lengths landings_cells landings_count fogSide) : Met l yX6_signOf (Cond.code yX6_signOf cX6_signOf 3 (some .char) :: gAll) ({ frames := 1, cells := 0, slots := 0, locals := 22 }) (va_Pc [.ref b, .int x1] (mm_Pre G w sz)) (mm_Qi G w sz (fun r w' => r = X ∧ w' = w)) 0 0 (va_A w sz) := by
  refine mm_headI [.ref b, .int x1] (by decide +kernel) rfl (Nat.le_of_ble_eq_true rfl) ?_
  intro p e s m args below meth c A Q hsz hC hM hret ls hl
  have hx := hC.1.1
  have hb := hC.1.2.1
  have hl : lv_has ls 3 [(0, .ref b), (1, .int x1)] := hl
  rw [f_X6_signOf] at hf
  refine lv_aload_n hx hb dX6_signOf_0 rfl (lv_at hl 0 rfl) ?_
  refine mm_get hC hM (k := 1) hp_this.1 rfl inAX6 (by decide) q1_141 rfl dX6_signOf_1 ?_
  refine lv_iload_n hx hb dX6_signOf_4 rfl (lv_at hl 1 rfl) ?_
  obtain ⟨q5, hq5, hf⟩ := mm_bd hf
  refine mm_Vi (rest := []) hC hM (c_X3_placeIn l hq5 (hp_this.2.2.1)) q6_164 q1_4 ykX3_placeIn q6_161 q6_162 q6_163 (hp_this.2.2.1).1 rfl ⟨rfl, rfl⟩ ⟨Nat.le_of_ble_eq_true rfl, Nat.le_of_ble_eq_true rfl⟩ rfl hl.1 rfl (Nat.le_of_ble_eq_true rfl) dX6_signOf_5 ⟨Nat.le_of_ble_eq_true rfl, Nat.le_of_ble_eq_true rfl⟩ (fun r w5 H locs hM hw => ?_)
  obtain ⟨hr, hw⟩ := hw
  rw [hr]
  rw [hw] at hM
  refine lv_istore_n (lv' := [(2, .int q5), (0, .ref b), (1, .int x1)]) hx hb dX6_signOf_8 rfl hl (by decide) rfl (fun ls hl => ?_)
  refine lv_iload_n hx hb dX6_signOf_9 rfl (lv_at hl 0 rfl) ?_
  refine lv_iconst (v := (-1)) hx hb dX6_signOf_10 (by decide) ?_
  refine lv_icmp_eq (tgt := 31) hx hb dX6_signOf_11 (by decide) (fun hcd => ?_) (fun hcd => ?_)
  · rw [if_pos hcd] at hf
    refine lv_aload_n hx hb dX6_signOf_31 rfl (lv_at hl 1 rfl) ?_
    refine mm_get hC hM (k := 1) hp_this.1 rfl inAX6 (by decide) q1_141 rfl dX6_signOf_32 ?_
    refine lv_iload_n hx hb dX6_signOf_35 rfl (lv_at hl 2 rfl) ?_
    obtain ⟨q36, hq36, hf⟩ := mm_bd hf
    refine mm_SNi (rest := [.ref (b + 3)]) hC hM (c_X12_image l hq36) q2_75 q1_1 ykX12_image q6_165 q2_74 ⟨rfl, rfl⟩ ⟨Nat.le_of_ble_eq_true rfl, Nat.le_of_ble_eq_true rfl⟩ rfl hl.1 rfl (Nat.le_of_ble_eq_true rfl) dX6_signOf_36 ⟨Nat.le_of_ble_eq_true rfl, Nat.le_of_ble_eq_true rfl⟩ (fun r w36 H locs hM hw => ?_)
    obtain ⟨hr, hw⟩ := hw
    rw [hr]
    rw [hw] at hM
    obtain ⟨q39, hq39, hf⟩ := mm_bd hf
    refine mm_Vi (rest := []) hC hM (c_X3_placeIn l hq39 (hp_this.2.2.1)) q6_164 q1_4 ykX3_placeIn q6_161 q6_162 q6_163 (hp_this.2.2.1).1 rfl ⟨rfl, rfl⟩ ⟨Nat.le_of_ble_eq_true rfl, Nat.le_of_ble_eq_true rfl⟩ rfl hl.1 rfl (Nat.le_of_ble_eq_true rfl) dX6_signOf_39 ⟨Nat.le_of_ble_eq_true rfl, Nat.le_of_ble_eq_true rfl⟩ (fun r w39 H locs hM hw => ?_)
    obtain ⟨hr, hw⟩ := hw
    rw [hr]
    rw [hw] at hM
    refine lv_iconst (v := (-1)) hx hb dX6_signOf_42 (by decide) ?_
    refine lv_icmp_eq (tgt := 49) hx hb dX6_signOf_43 (by decide) (fun hcd => ?_) (fun hcd => ?_)
    · rw [if_pos hcd] at hf
      refine lv_aload_n hx hb dX6_signOf_49 rfl (lv_at hl 1 rfl) ?_
      refine mm_get hC hM (k := 0) hp_this.1 rfl inAX6 (by decide) q1_138 rfl dX6_signOf_50 ?_
      refine lv_iload_n hx hb dX6_signOf_53 rfl (lv_at hl 2 rfl) ?_
      obtain ⟨q54, hq54, hf⟩ := mm_bd hf
      refine mm_Vi (rest := []) hC hM (c_X9_stateOf l hq54 (hp_this.2.1)) q3_188 q1_3 ykX9_stateOf q3_185 q3_186 q3_187 (hp_this.2.1).1 rfl ⟨rfl, rfl⟩ ⟨Nat.le_of_ble_eq_true rfl, Nat.le_of_ble_eq_true rfl⟩ rfl hl.1 rfl (Nat.le_of_ble_eq_true rfl) dX6_signOf_54 ⟨Nat.le_of_ble_eq_true rfl, Nat.le_of_ble_eq_true rfl⟩ (fun r w54 H locs hM hw => ?_)
      obtain ⟨hr, hw⟩ := hw
      rw [hr]
      rw [hw] at hM
      by_cases c57_0 : q54 = 1
      · rw [if_pos c57_0] at hf
        rw [c57_0]
        refine lv_lookup (tgt := 84) hx hb dX6_signOf_57 (by decide) rfl (by decide) ?_
        refine lv_bipush (v := 35) hx hb dX6_signOf_84 (by decide) ?_
        cases hf
        exact hret hM dX6_signOf_86 (by decide) ⟨rfl, rfl⟩
      · rw [if_neg c57_0] at hf
        by_cases c57_1 : q54 = 2
        · rw [if_pos c57_1] at hf
          rw [c57_1]
          refine lv_lookup (tgt := 87) hx hb dX6_signOf_57 (by decide) rfl (by decide) ?_
          refine lv_bipush (v := 39) hx hb dX6_signOf_87 (by decide) ?_
          cases hf
          exact hret hM dX6_signOf_89 (by decide) ⟨rfl, rfl⟩
        · rw [if_neg c57_1] at hf
          refine lv_lookup (off := 33) (tgt := 90) hx hb dX6_signOf_57 (by decide) (by have n0 := mm_ne c57_0 (k := 1) rfl; have n1 := mm_ne c57_1 (k := 2) rfl; simp [Op.lookupswitch.offset, n0, Ne.symm n0, n1, Ne.symm n1]) (by decide) ?_
          refine lv_bipush (v := 46) hx hb dX6_signOf_90 (by decide) ?_
          cases hf
          exact hret hM dX6_signOf_92 (by decide) ⟨rfl, rfl⟩
    · rw [if_neg hcd] at hf
      refine lv_bipush (v := 126) hx hb dX6_signOf_46 (by decide) ?_
      cases hf
      exact hret hM dX6_signOf_48 (by decide) ⟨rfl, rfl⟩
  · rw [if_neg hcd] at hf
    refine lv_bipush (v := 48) hx hb dX6_signOf_14 (by decide) ?_
    refine lv_aload_n hx hb dX6_signOf_16 rfl (lv_at hl 1 rfl) ?_
    refine mm_get hC hM (k := 1) hp_this.1 rfl inAX6 (by decide) q1_141 rfl dX6_signOf_17 ?_
    refine mm_get hC hM (k := 0) (hp_this.2.2.1).1 rfl inAX3 (by decide) q1_74 rfl dX6_signOf_20 ?_
    refine lv_iload_n hx hb dX6_signOf_23 rfl (lv_at hl 0 rfl) ?_
    obtain ⟨hg24, hf⟩ := mm_gd hf
    refine mm_iald hC hM ((hp_this.2.2.1).2.1) hg24 dX6_signOf_24 ?_
    refine lv_bipush (v := 10) hx hb dX6_signOf_25 (by decide) ?_
    refine lv_irem hx hb dX6_signOf_27 (by decide) ?_
    refine lv_iadd hx hb dX6_signOf_28 ?_
    refine lv_i2c hx hb dX6_signOf_29 rfl ?_
    cases hf
    exact hret hM dX6_signOf_30 (mm_narC2 _) ⟨rfl, rfl⟩
