def f_X12_settled (history_free : Int32) (history_count : Int32) (x1 : Int32) : Option (Nat × Int32 × Int32 × Int32) := if x1 = (-5) then some (5, 0, history_free, history_count) else if x1 = (-4) then some (4, 0, history_free, history_count) else if x1 = (-3) then some (3, 0, history_free, history_count) else if x1 = (-2) then some (2, 0, history_free, history_count) else if x1 = (-1) then some (1, 0, history_free, history_count) else (f_X4_confirm history_free history_count).bind fun q80 => some (0, x1, q80.1, q80.2)
set_option maxHeartbeats 4000000 in
set_option maxRecDepth 100000 in
theorem c_X12_settled (l : Launch) (hfl : l.stackTraces = false) {G : mm_G} {w : va_W} {sz : Nat} {b : Nat} {marsh_reeds_states : Nat → Int32} {marsh_reeds_count : Int32} {marsh_reeds_broken : Int32} {marsh_fleet_numbers : Nat → Int32} {marsh_fleet_cells : Nat → Int32} {marsh_fleet_fares : Nat → Int32} {marsh_fleet_count : Int32} {marsh_fleet_nextNumber : Int32} {marsh_fleet_total : Int32} {marsh_fleet_removedFares : Int32} {marsh_fleet_meetings : Int32} {marsh_plans_moves : Nat → Int32} {marsh_plans_lengths : Nat → Int32} {marsh_landings_cells : Nat → Int32} {marsh_landings_count : Int32} {marsh_fogSide : Int32} {snapshot_reeds_states : Nat → Int32} {snapshot_reeds_count : Int32} {snapshot_reeds_broken : Int32} {snapshot_fleet_numbers : Nat → Int32} {snapshot_fleet_cells : Nat → Int32} {snapshot_fleet_fares : Nat → Int32} {snapshot_fleet_count : Int32} {snapshot_fleet_nextNumber : Int32} {snapshot_fleet_total : Int32} {snapshot_fleet_removedFares : Int32} {snapshot_fleet_meetings : Int32} {snapshot_plans_moves : Nat → Int32} {snapshot_plans_lengths : Nat → Int32} {snapshot_landings_cells : Nat → Int32} {snapshot_landings_count : Int32} {snapshot_fogSide : Int32} {history_slots : Nat → mm_MV} {history_free : Int32} {history_count : Int32} {ways_tolls : Nat → Int32} {ways_queue : Nat → Int32} {ways_heap : Nat → Int32} {ways_heapSize : Int32} {ways_found : Nat → Int32} {ways_improved : Nat → Int32} {pairing_costs : Nat → Int32} {pairing_best : Nat → Int32} {reader_kinds : Nat → Int32} {reader_starts : Nat → Int32} {reader_count : Int32} {commandText_signs : Nat → Int32} {commandText_length : Int32} {line_signs : Nat → Int32} {line_length : Int32} {spareMoves : Nat → Int32} {snapshotTaken : Int32} {lastErrorPosition : Int32} {lastFailedCommand : Int32} {x1 : Int32} {X : Nat × Int32 × Int32 × Int32} (hf : f_X12_settled history_free history_count x1 = some X) (hp_this : At12 G w b marsh_reeds_states marsh_reeds_count marsh_reeds_broken marsh_fleet_numbers marsh_fleet_cells marsh_fleet_fares marsh_fleet_count marsh_fleet_nextNumber marsh_fleet_total marsh_fleet_removedFares marsh_fleet_meetings marsh_plans_moves marsh_plans_lengths marsh_landings_cells marsh_landings_count marsh_fogSide snapshot_reeds_states snapshot_reeds_count snapshot_reeds_broken snapshot_fleet_numbers snapshot_fleet_cells snapshot_fleet_fares snapshot_fleet_count snapshot_fleet_nextNumber snapshot_fleet_total snapshot_fleet_removedFares snapshot_fleet_meetings snapshot_plans_moves snapshot_plans_lengths snapshot_landings_cells snapshot_landings_count snapshot_fogSide history_slots history_free history_count ways_tolls ways_queue ways_heap ways_heapSize ways_found ways_improved pairing_costs pairing_best reader_kinds reader_starts reader_count commandText_signs commandText_length line_signs line_length spareMoves snapshotTaken lastErrorPosition lastFailedCommand) : vx_Met l yX12_settled (Cond.code yX12_settled cX12_settled 2 (some .int) :: gAll) ({ frames := 7, cells := 1, slots := 6, locals := 120 }) (va_Pc [.ref b, .int x1] (mm_Pre G w sz)) (mm_Qi G w sz (fun r w' => X.1 = 0 ∧ r = X.2.1 ∧ At12 G w' b marsh_reeds_states marsh_reeds_count marsh_reeds_broken marsh_fleet_numbers marsh_fleet_cells marsh_fleet_fares marsh_fleet_count marsh_fleet_nextNumber marsh_fleet_total marsh_fleet_removedFares marsh_fleet_meetings marsh_plans_moves marsh_plans_lengths marsh_landings_cells marsh_landings_count marsh_fogSide snapshot_reeds_states snapshot_reeds_count snapshot_reeds_broken snapshot_fleet_numbers snapshot_fleet_cells snapshot_fleet_fares snapshot_fleet_count snapshot_fleet_nextNumber snapshot_fleet_total snapshot_fleet_removedFares snapshot_fleet_meetings snapshot_plans_moves snapshot_plans_lengths snapshot_landings_cells snapshot_landings_count snapshot_fogSide history_slots X.2.2.1 X.2.2.2 ways_tolls ways_queue ways_heap ways_heapSize ways_found ways_improved pairing_costs pairing_best reader_kinds reader_starts reader_count commandText_signs commandText_length line_signs line_length spareMoves snapshotTaken lastErrorPosition lastFailedCommand ∧ mm_fr w w' b (b + 152))) (mm_QX G w sz (fun E w' => X.1 ≠ 0 ∧ E = mm_ex X.1 ∧ At12 G w' b marsh_reeds_states marsh_reeds_count marsh_reeds_broken marsh_fleet_numbers marsh_fleet_cells marsh_fleet_fares marsh_fleet_count marsh_fleet_nextNumber marsh_fleet_total marsh_fleet_removedFares marsh_fleet_meetings marsh_plans_moves marsh_plans_lengths marsh_landings_cells marsh_landings_count marsh_fogSide snapshot_reeds_states snapshot_reeds_count snapshot_reeds_broken snapshot_fleet_numbers snapshot_fleet_cells snapshot_fleet_fares snapshot_fleet_count snapshot_fleet_nextNumber snapshot_fleet_total snapshot_fleet_removedFares snapshot_fleet_meetings snapshot_plans_moves snapshot_plans_lengths snapshot_landings_cells snapshot_landings_count snapshot_fogSide history_slots X.2.2.1 X.2.2.2 ways_tolls ways_queue ways_heap ways_heapSize ways_found ways_improved pairing_costs pairing_best reader_kinds reader_starts reader_count commandText_signs commandText_length line_signs line_length spareMoves snapshotTaken lastErrorPosition lastFailedCommand ∧ mm_fr w w' b (b + 152))) 1 6 (va_A w sz) := by
  refine mm_xheadI hfl [.ref b, .int x1] (by decide +kernel) rfl (Nat.le_of_ble_eq_true rfl) rfl rfl ?_
  intro p e s m args below meth c A Q hsz hC hM hret hprop hthrow ls hl
  have hx := hC.1.1
  have hb := hC.1.2.1
  have hl : lv_has ls 2 [(0, .ref b), (1, .int x1)] := hl
  have hF : mm_fr w w b (b + 152) := mm_fr.rf
  rw [f_X12_settled] at hf
  obtain ⟨hc_this, hp_this_marsh, hp_this_snapshot, hp_this_history, hp_this_ways, hp_this_pairing, hp_this_reader, hp_this_commandText, hp_this_line, hp_this_spareMoves⟩ := hp_this
  refine lv_iload_n hx hb dX12_settled_0 rfl (lv_at hl 1 rfl) ?_
  by_cases c1_0 : x1 = (-5)
  · rw [if_pos c1_0] at hf
    rw [c1_0]
    refine lv_tableIn (tgt := 68) hx hb dX12_settled_1 (by decide) (by decide) rfl (by decide) ?_
    cases hf
    exact hthrow (names := ["java/lang/RuntimeException", "java/lang/Exception"]) hM hl.1 (by decide +kernel) (by decide +kernel) q4_28 q1_23 vxa_5 vxb_5 dX12_settled_68 dX12_settled_71 dX12_settled_72 dX12_settled_75 (by decide) (Nat.le_of_ble_eq_true rfl) (Nat.le_of_ble_eq_true rfl) (Nat.le_of_ble_eq_true rfl) ⟨(by simp), rfl, ⟨hc_this, hp_this_marsh, hp_this_snapshot, hp_this_history, hp_this_ways, hp_this_pairing, hp_this_reader, hp_this_commandText, hp_this_line, hp_this_spareMoves⟩, hF⟩
  · rw [if_neg c1_0] at hf
    by_cases c1_1 : x1 = (-4)
    · rw [if_pos c1_1] at hf
      rw [c1_1]
      refine lv_tableIn (tgt := 60) hx hb dX12_settled_1 (by decide) (by decide) rfl (by decide) ?_
      cases hf
      exact hthrow (names := ["java/lang/RuntimeException", "java/lang/Exception"]) hM hl.1 (by decide +kernel) (by decide +kernel) q4_13 q1_22 vxa_4 vxb_4 dX12_settled_60 dX12_settled_63 dX12_settled_64 dX12_settled_67 (by decide) (Nat.le_of_ble_eq_true rfl) (Nat.le_of_ble_eq_true rfl) (Nat.le_of_ble_eq_true rfl) ⟨(by simp), rfl, ⟨hc_this, hp_this_marsh, hp_this_snapshot, hp_this_history, hp_this_ways, hp_this_pairing, hp_this_reader, hp_this_commandText, hp_this_line, hp_this_spareMoves⟩, hF⟩
    · rw [if_neg c1_1] at hf
      by_cases c1_2 : x1 = (-3)
      · rw [if_pos c1_2] at hf
        rw [c1_2]
        refine lv_tableIn (tgt := 52) hx hb dX12_settled_1 (by decide) (by decide) rfl (by decide) ?_
        cases hf
        exact hthrow (names := ["java/lang/RuntimeException", "java/lang/Exception"]) hM hl.1 (by decide +kernel) (by decide +kernel) q3_238 q1_21 vxa_3 vxb_3 dX12_settled_52 dX12_settled_55 dX12_settled_56 dX12_settled_59 (by decide) (Nat.le_of_ble_eq_true rfl) (Nat.le_of_ble_eq_true rfl) (Nat.le_of_ble_eq_true rfl) ⟨(by simp), rfl, ⟨hc_this, hp_this_marsh, hp_this_snapshot, hp_this_history, hp_this_ways, hp_this_pairing, hp_this_reader, hp_this_commandText, hp_this_line, hp_this_spareMoves⟩, hF⟩
      · rw [if_neg c1_2] at hf
        by_cases c1_3 : x1 = (-2)
        · rw [if_pos c1_3] at hf
          rw [c1_3]
          refine lv_tableIn (tgt := 44) hx hb dX12_settled_1 (by decide) (by decide) rfl (by decide) ?_
          cases hf
          exact hthrow (names := ["java/lang/RuntimeException", "java/lang/Exception"]) hM hl.1 (by decide +kernel) (by decide +kernel) q3_223 q1_20 vxa_2 vxb_2 dX12_settled_44 dX12_settled_47 dX12_settled_48 dX12_settled_51 (by decide) (Nat.le_of_ble_eq_true rfl) (Nat.le_of_ble_eq_true rfl) (Nat.le_of_ble_eq_true rfl) ⟨(by simp), rfl, ⟨hc_this, hp_this_marsh, hp_this_snapshot, hp_this_history, hp_this_ways, hp_this_pairing, hp_this_reader, hp_this_commandText, hp_this_line, hp_this_spareMoves⟩, hF⟩
        · rw [if_neg c1_3] at hf
          by_cases c1_4 : x1 = (-1)
          · rw [if_pos c1_4] at hf
            rw [c1_4]
            refine lv_tableIn (tgt := 36) hx hb dX12_settled_1 (by decide) (by decide) rfl (by decide) ?_
            cases hf
            exact hthrow (names := ["java/lang/RuntimeException", "java/lang/Exception"]) hM hl.1 (by decide +kernel) (by decide +kernel) q3_202 q1_16 vxa_1 vxb_1 dX12_settled_36 dX12_settled_39 dX12_settled_40 dX12_settled_43 (by decide) (Nat.le_of_ble_eq_true rfl) (Nat.le_of_ble_eq_true rfl) (Nat.le_of_ble_eq_true rfl) ⟨(by simp), rfl, ⟨hc_this, hp_this_marsh, hp_this_snapshot, hp_this_history, hp_this_ways, hp_this_pairing, hp_this_reader, hp_this_commandText, hp_this_line, hp_this_spareMoves⟩, hF⟩
          · rw [if_neg c1_4] at hf
            refine lv_tableOut (tgt := 76) hx hb dX12_settled_1 (by have n0 := mm_ne c1_0 (k := -5) rfl; have n1 := mm_ne c1_1 (k := -4) rfl; have n2 := mm_ne c1_2 (k := -3) rfl; have n3 := mm_ne c1_3 (k := -2) rfl; have n4 := mm_ne c1_4 (k := -1) rfl; omega) (by decide) ?_
            refine lv_aload_n hx hb dX12_settled_76 rfl (lv_at hl 0 rfl) ?_
            refine mm_get hC hM (k := 2) hc_this rfl inAX12 (by decide) q2_18 rfl dX12_settled_77 ?_
            obtain ⟨q80, hq80, hf⟩ := mm_bd hf
            refine mm_Vv (rest := []) hC hM (c_X4_confirm l hq80 hp_this_history) q4_46 q1_7 ykX4_confirm q4_43 q4_44 q4_45 hp_this_history.1 rfl ⟨rfl, rfl⟩ ⟨Nat.le_of_ble_eq_true rfl, Nat.le_of_ble_eq_true rfl⟩ rfl hl.1 rfl (Nat.le_of_ble_eq_true rfl) dX12_settled_80 ⟨Nat.le_of_ble_eq_true rfl, Nat.le_of_ble_eq_true rfl⟩ (fun w80 H locs hM hw => ?_)
            obtain ⟨hn_this, hfr⟩ := hw
            have hc_this := hfr.keep hc_this (by omega)
            have hp_this_spareMoves := hfr.keep hp_this_spareMoves (by omega)
            have hp_this_marsh := hp_this_marsh.keep hfr (by omega)
            have hp_this_snapshot := hp_this_snapshot.keep hfr (by omega)
            have hp_this_ways := hp_this_ways.keep hfr (by omega)
            have hp_this_pairing := hp_this_pairing.keep hfr (by omega)
            have hp_this_reader := hp_this_reader.keep hfr (by omega)
            have hp_this_commandText := hp_this_commandText.keep hfr (by omega)
            have hp_this_line := hp_this_line.keep hfr (by omega)
            have hp_this_history := hn_this
            have hF := hF.tr (hfr.wide (by omega) (by omega))
            refine lv_iload_n hx hb dX12_settled_83 rfl (lv_at hl 1 rfl) ?_
            cases hf
            exact hret hM dX12_settled_84 rfl ⟨rfl, rfl, ⟨hc_this, hp_this_marsh, hp_this_snapshot, hp_this_history, hp_this_ways, hp_this_pairing, hp_this_reader, hp_this_commandText, hp_this_line, hp_this_spareMoves⟩, hF⟩ (Nat.le_of_ble_eq_true rfl) (Nat.le_of_ble_eq_true rfl)
def f_X12_addReed (K : Nat) (marsh_reeds_states : Nat → Int32) (marsh_reeds_count : Int32) (marsh_reeds_broken : Int32) (marsh_fleet_numbers : Nat → Int32) (marsh_fleet_cells : Nat → Int32) (marsh_fleet_fares : Nat → Int32) (marsh_fleet_count : Int32) (marsh_fleet_nextNumber : Int32) (marsh_fleet_total : Int32) (marsh_fleet_removedFares : Int32) (marsh_fleet_meetings : Int32) (marsh_plans_moves : Nat → Int32) (marsh_plans_lengths : Nat → Int32) (marsh_landings_cells : Nat → Int32) (marsh_landings_count : Int32) (marsh_fogSide : Int32) (history_slots : Nat → mm_MV) (history_free : Int32) (history_count : Int32) (x1 : Int32) (x2 : Int32) : Option (Nat × Int32 × (Nat → Int32) × Int32 × (Nat → mm_MV) × Int32 × Int32) := (f_X4_note history_slots history_free marsh_reeds_states marsh_reeds_count marsh_reeds_broken marsh_fleet_numbers marsh_fleet_cells marsh_fleet_fares marsh_fleet_count marsh_fleet_nextNumber marsh_fleet_total marsh_fleet_removedFares marsh_fleet_meetings marsh_plans_moves marsh_plans_lengths marsh_landings_cells marsh_landings_count marsh_fogSide).bind fun q8 => (f_X6_growReed K marsh_reeds_states marsh_reeds_count marsh_fleet_cells marsh_fleet_count x1 x2).bind fun q18 => (f_X12_settled history_free history_count q18.1).bind fun q21 => if q21.1 = 0 then some (0, q21.2.1, q18.2.1, q18.2.2, q8, q21.2.2.1, q21.2.2.2) else some (q21.1, 0, q18.2.1, q18.2.2, q8, q21.2.2.1, q21.2.2.2)
set_option maxHeartbeats 4000000 in
set_option maxRecDepth 100000 in
theorem c_X12_addReed (l : Launch) (hfl : l.stackTraces = false) {G : mm_G} {K : Nat} {w : va_W} {sz : Nat} {b : Nat} {marsh_reeds_states : Nat → Int32} {marsh_reeds_count : Int32} {marsh_reeds_broken : Int32} {marsh_fleet_numbers : Nat → Int32} {marsh_fleet_cells : Nat → Int32} {marsh_fleet_fares : Nat → Int32} {marsh_fleet_count : Int32} {marsh_fleet_nextNumber : Int32} {marsh_fleet_total : Int32} {marsh_fleet_removedFares : Int32} {marsh_fleet_meetings : Int32} {marsh_plans_moves : Nat → Int32} {marsh_plans_lengths : Nat → Int32} {marsh_landings_cells : Nat → Int32} {marsh_landings_count : Int32} {marsh_fogSide : Int32} {snapshot_reeds_states : Nat → Int32} {snapshot_reeds_count : Int32} {snapshot_reeds_broken : Int32} {snapshot_fleet_numbers : Nat → Int32} {snapshot_fleet_cells : Nat → Int32} {snapshot_fleet_fares : Nat → Int32} {snapshot_fleet_count : Int32} {snapshot_fleet_nextNumber : Int32} {snapshot_fleet_total : Int32} {snapshot_fleet_removedFares : Int32} {snapshot_fleet_meetings : Int32} {snapshot_plans_moves : Nat → Int32} {snapshot_plans_lengths : Nat → Int32} {snapshot_landings_cells : Nat → Int32} {snapshot_landings_count : Int32} {snapshot_fogSide : Int32} {history_slots : Nat → mm_MV} {history_free : Int32} {history_count : Int32} {ways_tolls : Nat → Int32} {ways_queue : Nat → Int32} {ways_heap : Nat → Int32} {ways_heapSize : Int32} {ways_found : Nat → Int32} {ways_improved : Nat → Int32} {pairing_costs : Nat → Int32} {pairing_best : Nat → Int32} {reader_kinds : Nat → Int32} {reader_starts : Nat → Int32} {reader_count : Int32} {commandText_signs : Nat → Int32} {commandText_length : Int32} {line_signs : Nat → Int32} {line_length : Int32} {spareMoves : Nat → Int32} {snapshotTaken : Int32} {lastErrorPosition : Int32} {lastFailedCommand : Int32} {x1 : Int32} {x2 : Int32} {X : Nat × Int32 × (Nat → Int32) × Int32 × (Nat → mm_MV) × Int32 × Int32} (hf : f_X12_addReed K marsh_reeds_states marsh_reeds_count marsh_reeds_broken marsh_fleet_numbers marsh_fleet_cells marsh_fleet_fares marsh_fleet_count marsh_fleet_nextNumber marsh_fleet_total marsh_fleet_removedFares marsh_fleet_meetings marsh_plans_moves marsh_plans_lengths marsh_landings_cells marsh_landings_count marsh_fogSide history_slots history_free history_count x1 x2 = some X) (hp_this : At12 G w b marsh_reeds_states marsh_reeds_count marsh_reeds_broken marsh_fleet_numbers marsh_fleet_cells marsh_fleet_fares marsh_fleet_count marsh_fleet_nextNumber marsh_fleet_total marsh_fleet_removedFares marsh_fleet_meetings marsh_plans_moves marsh_plans_lengths marsh_landings_cells marsh_landings_count marsh_fogSide snapshot_reeds_states snapshot_reeds_count snapshot_reeds_broken snapshot_fleet_numbers snapshot_fleet_cells snapshot_fleet_fares snapshot_fleet_count snapshot_fleet_nextNumber snapshot_fleet_total snapshot_fleet_removedFares snapshot_fleet_meetings snapshot_plans_moves snapshot_plans_lengths snapshot_landings_cells snapshot_landings_count snapshot_fogSide history_slots history_free history_count ways_tolls ways_queue ways_heap ways_heapSize ways_found ways_improved pairing_costs pairing_best reader_kinds reader_starts reader_count commandText_signs commandText_length line_signs line_length spareMoves snapshotTaken lastErrorPosition lastFailedCommand) : vx_Met l yX12_addReed (Cond.code yX12_addReed cX12_addReed 3 (some .int) :: gAll) ({ frames := 8, cells := 1, slots := 6, locals := 141 }) (va_Pc [.ref b, .int x1, .int x2] (mm_Pre G w sz)) (mm_Qi G w sz (fun r w' => X.1 = 0 ∧ r = X.2.1 ∧ At12 G w' b X.2.2.1 X.2.2.2.1 marsh_reeds_broken marsh_fleet_numbers marsh_fleet_cells marsh_fleet_fares marsh_fleet_count marsh_fleet_nextNumber marsh_fleet_total marsh_fleet_removedFares marsh_fleet_meetings marsh_plans_moves marsh_plans_lengths marsh_landings_cells marsh_landings_count marsh_fogSide snapshot_reeds_states snapshot_reeds_count snapshot_reeds_broken snapshot_fleet_numbers snapshot_fleet_cells snapshot_fleet_fares snapshot_fleet_count snapshot_fleet_nextNumber snapshot_fleet_total snapshot_fleet_removedFares snapshot_fleet_meetings snapshot_plans_moves snapshot_plans_lengths snapshot_landings_cells snapshot_landings_count snapshot_fogSide X.2.2.2.2.1 X.2.2.2.2.2.1 X.2.2.2.2.2.2 ways_tolls ways_queue ways_heap ways_heapSize ways_found ways_improved pairing_costs pairing_best reader_kinds reader_starts reader_count commandText_signs commandText_length line_signs line_length spareMoves snapshotTaken lastErrorPosition lastFailedCommand ∧ mm_fr w w' b (b + 152))) (mm_QX G w sz (fun E w' => X.1 ≠ 0 ∧ E = mm_ex X.1 ∧ At12 G w' b X.2.2.1 X.2.2.2.1 marsh_reeds_broken marsh_fleet_numbers marsh_fleet_cells marsh_fleet_fares marsh_fleet_count marsh_fleet_nextNumber marsh_fleet_total marsh_fleet_removedFares marsh_fleet_meetings marsh_plans_moves marsh_plans_lengths marsh_landings_cells marsh_landings_count marsh_fogSide snapshot_reeds_states snapshot_reeds_count snapshot_reeds_broken snapshot_fleet_numbers snapshot_fleet_cells snapshot_fleet_fares snapshot_fleet_count snapshot_fleet_nextNumber snapshot_fleet_total snapshot_fleet_removedFares snapshot_fleet_meetings snapshot_plans_moves snapshot_plans_lengths snapshot_landings_cells snapshot_landings_count snapshot_fogSide X.2.2.2.2.1 X.2.2.2.2.2.1 X.2.2.2.2.2.2 ways_tolls ways_queue ways_heap ways_heapSize ways_found ways_improved pairing_costs pairing_best reader_kinds reader_starts reader_count commandText_signs commandText_length line_signs line_length spareMoves snapshotTaken lastErrorPosition lastFailedCommand ∧ mm_fr w w' b (b + 152))) 1 6 (va_A w sz) := by
  refine mm_xheadI hfl [.ref b, .int x1, .int x2] (by decide +kernel) rfl (Nat.le_of_ble_eq_true rfl) rfl rfl ?_
  intro p e s m args below meth c A Q hsz hC hM hret hprop hthrow ls hl
  have hx := hC.1.1
  have hb := hC.1.2.1
  have hl : lv_has ls 3 [(0, .ref b), (1, .int x1), (2, .int x2)] := hl
  have hF : mm_fr w w b (b + 152) := mm_fr.rf
  rw [f_X12_addReed] at hf
  obtain ⟨hc_this, hp_this_marsh, hp_this_snapshot, hp_this_history, hp_this_ways, hp_this_pairing, hp_this_reader, hp_this_commandText, hp_this_line, hp_this_spareMoves⟩ := hp_this
  refine lv_aload_n hx hb dX12_addReed_0 rfl (lv_at hl 0 rfl) ?_
  refine mm_get hC hM (k := 2) hc_this rfl inAX12 (by decide) q2_18 rfl dX12_addReed_1 ?_
  refine lv_aload_n hx hb dX12_addReed_4 rfl (lv_at hl 0 rfl) ?_
  refine mm_get hC hM (k := 0) hc_this rfl inAX12 (by decide) q2_16 rfl dX12_addReed_5 ?_
  obtain ⟨q8, hq8, hf⟩ := mm_bd hf
  refine mm_Vv (rest := []) hC hM (c_X4_note l hq8 hp_this_history hp_this_marsh (by omega)) q3_178 q1_7 ykX4_note q3_175 q3_176 q3_177 hp_this_history.1 rfl ⟨rfl, rfl⟩ ⟨Nat.le_of_ble_eq_true rfl, Nat.le_of_ble_eq_true rfl⟩ rfl hl.1 rfl (Nat.le_of_ble_eq_true rfl) dX12_addReed_8 ⟨Nat.le_of_ble_eq_true rfl, Nat.le_of_ble_eq_true rfl⟩ (fun w8 H locs hM hw => ?_)
  obtain ⟨hn_this, hfr⟩ := hw
  have hc_this := hfr.keep hc_this (by omega)
  have hp_this_spareMoves := hfr.keep hp_this_spareMoves (by omega)
  have hp_this_marsh := hp_this_marsh.keep hfr (by omega)
  have hp_this_snapshot := hp_this_snapshot.keep hfr (by omega)
  have hp_this_ways := hp_this_ways.keep hfr (by omega)
  have hp_this_pairing := hp_this_pairing.keep hfr (by omega)
  have hp_this_reader := hp_this_reader.keep hfr (by omega)
  have hp_this_commandText := hp_this_commandText.keep hfr (by omega)
  have hp_this_line := hp_this_line.keep hfr (by omega)
  have hp_this_history := hn_this
  have hF := hF.tr (hfr.wide (by omega) (by omega))
  refine lv_aload_n hx hb dX12_addReed_11 rfl (lv_at hl 0 rfl) ?_
  refine lv_aload_n hx hb dX12_addReed_12 rfl (lv_at hl 0 rfl) ?_
  refine mm_get hC hM (k := 0) hc_this rfl inAX12 (by decide) q2_16 rfl dX12_addReed_13 ?_
  refine lv_iload_n hx hb dX12_addReed_16 rfl (lv_at hl 1 rfl) ?_
  refine lv_iload_n hx hb dX12_addReed_17 rfl (lv_at hl 2 rfl) ?_
  obtain ⟨q18, hq18, hf⟩ := mm_bd hf
  refine mm_Vi (rest := [.ref b]) hC hM (c_X6_growReed l hq18 hp_this_marsh) q3_183 q1_2 ykX6_growReed q3_180 q3_181 q3_182 hp_this_marsh.1 rfl ⟨rfl, rfl⟩ ⟨Nat.le_of_ble_eq_true rfl, Nat.le_of_ble_eq_true rfl⟩ rfl hl.1 rfl (Nat.le_of_ble_eq_true rfl) dX12_addReed_18 ⟨Nat.le_of_ble_eq_true rfl, Nat.le_of_ble_eq_true rfl⟩ (fun r w18 H locs hM hw => ?_)
  obtain ⟨hr, hn_this, hfr⟩ := hw
  rw [hr]
  have hc_this := hfr.keep hc_this (by omega)
  have hp_this_spareMoves := hfr.keep hp_this_spareMoves (by omega)
  have hp_this_snapshot := hp_this_snapshot.keep hfr (by omega)
  have hp_this_history := hp_this_history.keep hfr (by omega)
  have hp_this_ways := hp_this_ways.keep hfr (by omega)
  have hp_this_pairing := hp_this_pairing.keep hfr (by omega)
  have hp_this_reader := hp_this_reader.keep hfr (by omega)
  have hp_this_commandText := hp_this_commandText.keep hfr (by omega)
  have hp_this_line := hp_this_line.keep hfr (by omega)
  have hp_this_marsh := hn_this
  have hF := hF.tr (hfr.wide (by omega) (by omega))
  obtain ⟨q21, hq21, hf⟩ := mm_bd hf
  refine mm_xVi (rest := []) hC hM (c_X12_settled l hfl hq21 ⟨hc_this, hp_this_marsh, hp_this_snapshot, hp_this_history, hp_this_ways, hp_this_pairing, hp_this_reader, hp_this_commandText, hp_this_line, hp_this_spareMoves⟩) q3_201 q1_1 ykX12_settled q3_198 q3_200 qp_bbc23764 hc_this rfl ⟨rfl, rfl⟩ ⟨Nat.le_of_ble_eq_true rfl, Nat.le_of_ble_eq_true rfl⟩ rfl hl.1 rfl (Nat.le_of_ble_eq_true rfl) dX12_addReed_21 ⟨Nat.le_of_ble_eq_true rfl, Nat.le_of_ble_eq_true rfl⟩ (fun E ce qE w21 H locs hM hw hqE hv9 hcl9 => ?_) (fun r w21 H locs hM hw => ?_)
  · obtain ⟨hne, hE, hn_this, hfr⟩ := hw
    rw [if_neg hne] at hf
    obtain ⟨hc_this, hp_this_marsh, hp_this_snapshot, hp_this_history, hp_this_ways, hp_this_pairing, hp_this_reader, hp_this_commandText, hp_this_line, hp_this_spareMoves⟩ := hn_this
    have hF := hF.tr (hfr.wide (by omega) (by omega))
    cases hf
    exact hprop hM hqE hv9 hcl9 ⟨hne, hE, ⟨hc_this, hp_this_marsh, hp_this_snapshot, hp_this_history, hp_this_ways, hp_this_pairing, hp_this_reader, hp_this_commandText, hp_this_line, hp_this_spareMoves⟩, hF⟩ (Nat.le_of_ble_eq_true rfl) (Nat.le_of_ble_eq_true rfl)
  obtain ⟨h0, hr, hn_this, hfr⟩ := hw
  rw [if_pos h0] at hf
  rw [hr]
  obtain ⟨hc_this, hp_this_marsh, hp_this_snapshot, hp_this_history, hp_this_ways, hp_this_pairing, hp_this_reader, hp_this_commandText, hp_this_line, hp_this_spareMoves⟩ := hn_this
  have hF := hF.tr (hfr.wide (by omega) (by omega))
  cases hf
  exact hret hM dX12_addReed_24 rfl ⟨rfl, rfl, ⟨hc_this, hp_this_marsh, hp_this_snapshot, hp_this_history, hp_this_ways, hp_this_pairing, hp_this_reader, hp_this_commandText, hp_this_line, hp_this_spareMoves⟩, hF⟩ (Nat.le_of_ble_eq_true rfl) (Nat.le_of_ble_eq_true rfl)
def f_X12_breakReed (marsh_reeds_states : Nat → Int32) (marsh_reeds_count : Int32) (marsh_reeds_broken : Int32) (marsh_fleet_numbers : Nat → Int32) (marsh_fleet_cells : Nat → Int32) (marsh_fleet_fares : Nat → Int32) (marsh_fleet_count : Int32) (marsh_fleet_nextNumber : Int32) (marsh_fleet_total : Int32) (marsh_fleet_removedFares : Int32) (marsh_fleet_meetings : Int32) (marsh_plans_moves : Nat → Int32) (marsh_plans_lengths : Nat → Int32) (marsh_landings_cells : Nat → Int32) (marsh_landings_count : Int32) (marsh_fogSide : Int32) (history_slots : Nat → mm_MV) (history_free : Int32) (history_count : Int32) (x1 : Int32) (x2 : Int32) : Option (Nat × Int32 × (Nat → Int32) × Int32 × (Nat → mm_MV) × Int32 × Int32) := (f_X4_note history_slots history_free marsh_reeds_states marsh_reeds_count marsh_reeds_broken marsh_fleet_numbers marsh_fleet_cells marsh_fleet_fares marsh_fleet_count marsh_fleet_nextNumber marsh_fleet_total marsh_fleet_removedFares marsh_fleet_meetings marsh_plans_moves marsh_plans_lengths marsh_landings_cells marsh_landings_count marsh_fogSide).bind fun q8 => (f_X6_snapReed marsh_reeds_states marsh_reeds_broken x1 x2).bind fun q18 => (f_X12_settled history_free history_count q18.1).bind fun q21 => if q21.1 = 0 then some (0, q21.2.1, q18.2.1, q18.2.2, q8, q21.2.2.1, q21.2.2.2) else some (q21.1, 0, q18.2.1, q18.2.2, q8, q21.2.2.1, q21.2.2.2)
set_option maxHeartbeats 4000000 in
set_option maxRecDepth 100000 in
theorem c_X12_breakReed (l : Launch) (hfl : l.stackTraces = false) {G : mm_G} {w : va_W} {sz : Nat} {b : Nat} {marsh_reeds_states : Nat → Int32} {marsh_reeds_count : Int32} {marsh_reeds_broken : Int32} {marsh_fleet_numbers : Nat → Int32} {marsh_fleet_cells : Nat → Int32} {marsh_fleet_fares : Nat → Int32} {marsh_fleet_count : Int32} {marsh_fleet_nextNumber : Int32} {marsh_fleet_total : Int32} {marsh_fleet_removedFares : Int32} {marsh_fleet_meetings : Int32} {marsh_plans_moves : Nat → Int32} {marsh_plans_lengths : Nat → Int32} {marsh_landings_cells : Nat → Int32} {marsh_landings_count : Int32} {marsh_fogSide : Int32} {snapshot_reeds_states : Nat → Int32} {snapshot_reeds_count : Int32} {snapshot_reeds_broken : Int32} {snapshot_fleet_numbers : Nat → Int32} {snapshot_fleet_cells : Nat → Int32} {snapshot_fleet_fares : Nat → Int32} {snapshot_fleet_count : Int32} {snapshot_fleet_nextNumber : Int32} {snapshot_fleet_total : Int32} {snapshot_fleet_removedFares : Int32} {snapshot_fleet_meetings : Int32} {snapshot_plans_moves : Nat → Int32} {snapshot_plans_lengths : Nat → Int32} {snapshot_landings_cells : Nat → Int32} {snapshot_landings_count : Int32} {snapshot_fogSide : Int32} {history_slots : Nat → mm_MV} {history_free : Int32} {history_count : Int32} {ways_tolls : Nat → Int32} {ways_queue : Nat → Int32} {ways_heap : Nat → Int32} {ways_heapSize : Int32} {ways_found : Nat → Int32} {ways_improved : Nat → Int32} {pairing_costs : Nat → Int32} {pairing_best : Nat → Int32} {reader_kinds : Nat → Int32} {reader_starts : Nat → Int32} {reader_count : Int32} {commandText_signs : Nat → Int32} {commandText_length : Int32} {line_signs : Nat → Int32} {line_length : Int32} {spareMoves : Nat → Int32} {snapshotTaken : Int32} {lastErrorPosition : Int32} {lastFailedCommand : Int32} {x1 : Int32} {x2 : Int32} {X : Nat × Int32 × (Nat → Int32) × Int32 × (Nat → mm_MV) × Int32 × Int32} (hf : f_X12_breakReed marsh_reeds_states marsh_reeds_count marsh_reeds_broken marsh_fleet_numbers marsh_fleet_cells marsh_fleet_fares marsh_fleet_count marsh_fleet_nextNumber marsh_fleet_total marsh_fleet_removedFares marsh_fleet_meetings marsh_plans_moves marsh_plans_lengths marsh_landings_cells marsh_landings_count marsh_fogSide history_slots history_free history_count x1 x2 = some X) (hp_this : At12 G w b marsh_reeds_states marsh_reeds_count marsh_reeds_broken marsh_fleet_numbers marsh_fleet_cells marsh_fleet_fares marsh_fleet_count marsh_fleet_nextNumber marsh_fleet_total marsh_fleet_removedFares marsh_fleet_meetings marsh_plans_moves marsh_plans_lengths marsh_landings_cells marsh_landings_count marsh_fogSide snapshot_reeds_states snapshot_reeds_count snapshot_reeds_broken snapshot_fleet_numbers snapshot_fleet_cells snapshot_fleet_fares snapshot_fleet_count snapshot_fleet_nextNumber snapshot_fleet_total snapshot_fleet_removedFares snapshot_fleet_meetings snapshot_plans_moves snapshot_plans_lengths snapshot_landings_cells snapshot_landings_count snapshot_fogSide history_slots history_free history_count ways_tolls ways_queue ways_heap ways_heapSize ways_found ways_improved pairing_costs pairing_best reader_kinds reader_starts reader_count commandText_signs commandText_length line_signs line_length spareMoves snapshotTaken lastErrorPosition lastFailedCommand) : vx_Met l yX12_breakReed (Cond.code yX12_breakReed cX12_breakReed 3 (some .int) :: gAll) ({ frames := 8, cells := 1, slots := 6, locals := 141 }) (va_Pc [.ref b, .int x1, .int x2] (mm_Pre G w sz)) (mm_Qi G w sz (fun r w' => X.1 = 0 ∧ r = X.2.1 ∧ At12 G w' b X.2.2.1 marsh_reeds_count X.2.2.2.1 marsh_fleet_numbers marsh_fleet_cells marsh_fleet_fares marsh_fleet_count marsh_fleet_nextNumber marsh_fleet_total marsh_fleet_removedFares marsh_fleet_meetings marsh_plans_moves marsh_plans_lengths marsh_landings_cells marsh_landings_count marsh_fogSide snapshot_reeds_states snapshot_reeds_count snapshot_reeds_broken snapshot_fleet_numbers snapshot_fleet_cells snapshot_fleet_fares snapshot_fleet_count snapshot_fleet_nextNumber snapshot_fleet_total snapshot_fleet_removedFares snapshot_fleet_meetings snapshot_plans_moves snapshot_plans_lengths snapshot_landings_cells snapshot_landings_count snapshot_fogSide X.2.2.2.2.1 X.2.2.2.2.2.1 X.2.2.2.2.2.2 ways_tolls ways_queue ways_heap ways_heapSize ways_found ways_improved pairing_costs pairing_best reader_kinds reader_starts reader_count commandText_signs commandText_length line_signs line_length spareMoves snapshotTaken lastErrorPosition lastFailedCommand ∧ mm_fr w w' b (b + 152))) (mm_QX G w sz (fun E w' => X.1 ≠ 0 ∧ E = mm_ex X.1 ∧ At12 G w' b X.2.2.1 marsh_reeds_count X.2.2.2.1 marsh_fleet_numbers marsh_fleet_cells marsh_fleet_fares marsh_fleet_count marsh_fleet_nextNumber marsh_fleet_total marsh_fleet_removedFares marsh_fleet_meetings marsh_plans_moves marsh_plans_lengths marsh_landings_cells marsh_landings_count marsh_fogSide snapshot_reeds_states snapshot_reeds_count snapshot_reeds_broken snapshot_fleet_numbers snapshot_fleet_cells snapshot_fleet_fares snapshot_fleet_count snapshot_fleet_nextNumber snapshot_fleet_total snapshot_fleet_removedFares snapshot_fleet_meetings snapshot_plans_moves snapshot_plans_lengths snapshot_landings_cells snapshot_landings_count snapshot_fogSide X.2.2.2.2.1 X.2.2.2.2.2.1 X.2.2.2.2.2.2 ways_tolls ways_queue ways_heap ways_heapSize ways_found ways_improved pairing_costs pairing_best reader_kinds reader_starts reader_count commandText_signs commandText_length line_signs line_length spareMoves snapshotTaken lastErrorPosition lastFailedCommand ∧ mm_fr w w' b (b + 152))) 1 6 (va_A w sz) := by
  refine mm_xheadI hfl [.ref b, .int x1, .int x2] (by decide +kernel) rfl (Nat.le_of_ble_eq_true rfl) rfl rfl ?_
  intro p e s m args below meth c A Q hsz hC hM hret hprop hthrow ls hl
  have hx := hC.1.1
  have hb := hC.1.2.1
  have hl : lv_has ls 3 [(0, .ref b), (1, .int x1), (2, .int x2)] := hl
  have hF : mm_fr w w b (b + 152) := mm_fr.rf
  rw [f_X12_breakReed] at hf
  obtain ⟨hc_this, hp_this_marsh, hp_this_snapshot, hp_this_history, hp_this_ways, hp_this_pairing, hp_this_reader, hp_this_commandText, hp_this_line, hp_this_spareMoves⟩ := hp_this
  refine lv_aload_n hx hb dX12_breakReed_0 rfl (lv_at hl 0 rfl) ?_
  refine mm_get hC hM (k := 2) hc_this rfl inAX12 (by decide) q2_18 rfl dX12_breakReed_1 ?_
  refine lv_aload_n hx hb dX12_breakReed_4 rfl (lv_at hl 0 rfl) ?_
  refine mm_get hC hM (k := 0) hc_this rfl inAX12 (by decide) q2_16 rfl dX12_breakReed_5 ?_
  obtain ⟨q8, hq8, hf⟩ := mm_bd hf
  refine mm_Vv (rest := []) hC hM (c_X4_note l hq8 hp_this_history hp_this_marsh (by omega)) q3_178 q1_7 ykX4_note q3_175 q3_176 q3_177 hp_this_history.1 rfl ⟨rfl, rfl⟩ ⟨Nat.le_of_ble_eq_true rfl, Nat.le_of_ble_eq_true rfl⟩ rfl hl.1 rfl (Nat.le_of_ble_eq_true rfl) dX12_breakReed_8 ⟨Nat.le_of_ble_eq_true rfl, Nat.le_of_ble_eq_true rfl⟩ (fun w8 H locs hM hw => ?_)
  obtain ⟨hn_this, hfr⟩ := hw
  have hc_this := hfr.keep hc_this (by omega)
  have hp_this_spareMoves := hfr.keep hp_this_spareMoves (by omega)
  have hp_this_marsh := hp_this_marsh.keep hfr (by omega)
  have hp_this_snapshot := hp_this_snapshot.keep hfr (by omega)
  have hp_this_ways := hp_this_ways.keep hfr (by omega)
  have hp_this_pairing := hp_this_pairing.keep hfr (by omega)
  have hp_this_reader := hp_this_reader.keep hfr (by omega)
  have hp_this_commandText := hp_this_commandText.keep hfr (by omega)
  have hp_this_line := hp_this_line.keep hfr (by omega)
  have hp_this_history := hn_this
  have hF := hF.tr (hfr.wide (by omega) (by omega))
  refine lv_aload_n hx hb dX12_breakReed_11 rfl (lv_at hl 0 rfl) ?_
  refine lv_aload_n hx hb dX12_breakReed_12 rfl (lv_at hl 0 rfl) ?_
  refine mm_get hC hM (k := 0) hc_this rfl inAX12 (by decide) q2_16 rfl dX12_breakReed_13 ?_
  refine lv_iload_n hx hb dX12_breakReed_16 rfl (lv_at hl 1 rfl) ?_
  refine lv_iload_n hx hb dX12_breakReed_17 rfl (lv_at hl 2 rfl) ?_
  obtain ⟨q18, hq18, hf⟩ := mm_bd hf
  refine mm_Vi (rest := [.ref b]) hC hM (c_X6_snapReed l hq18 hp_this_marsh) q4_59 q1_2 ykX6_snapReed q4_56 q4_57 q4_58 hp_this_marsh.1 rfl ⟨rfl, rfl⟩ ⟨Nat.le_of_ble_eq_true rfl, Nat.le_of_ble_eq_true rfl⟩ rfl hl.1 rfl (Nat.le_of_ble_eq_true rfl) dX12_breakReed_18 ⟨Nat.le_of_ble_eq_true rfl, Nat.le_of_ble_eq_true rfl⟩ (fun r w18 H locs hM hw => ?_)
  obtain ⟨hr, hn_this, hfr⟩ := hw
  rw [hr]
  have hc_this := hfr.keep hc_this (by omega)
  have hp_this_spareMoves := hfr.keep hp_this_spareMoves (by omega)
  have hp_this_snapshot := hp_this_snapshot.keep hfr (by omega)
  have hp_this_history := hp_this_history.keep hfr (by omega)
  have hp_this_ways := hp_this_ways.keep hfr (by omega)
  have hp_this_pairing := hp_this_pairing.keep hfr (by omega)
  have hp_this_reader := hp_this_reader.keep hfr (by omega)
  have hp_this_commandText := hp_this_commandText.keep hfr (by omega)
  have hp_this_line := hp_this_line.keep hfr (by omega)
  have hp_this_marsh := hn_this
  have hF := hF.tr (hfr.wide (by omega) (by omega))
  obtain ⟨q21, hq21, hf⟩ := mm_bd hf
  refine mm_xVi (rest := []) hC hM (c_X12_settled l hfl hq21 ⟨hc_this, hp_this_marsh, hp_this_snapshot, hp_this_history, hp_this_ways, hp_this_pairing, hp_this_reader, hp_this_commandText, hp_this_line, hp_this_spareMoves⟩) q3_201 q1_1 ykX12_settled q3_198 q3_200 qp_bbc23764 hc_this rfl ⟨rfl, rfl⟩ ⟨Nat.le_of_ble_eq_true rfl, Nat.le_of_ble_eq_true rfl⟩ rfl hl.1 rfl (Nat.le_of_ble_eq_true rfl) dX12_breakReed_21 ⟨Nat.le_of_ble_eq_true rfl, Nat.le_of_ble_eq_true rfl⟩ (fun E ce qE w21 H locs hM hw hqE hv9 hcl9 => ?_) (fun r w21 H locs hM hw => ?_)
  · obtain ⟨hne, hE, hn_this, hfr⟩ := hw
    rw [if_neg hne] at hf
    obtain ⟨hc_this, hp_this_marsh, hp_this_snapshot, hp_this_history, hp_this_ways, hp_this_pairing, hp_this_reader, hp_this_commandText, hp_this_line, hp_this_spareMoves⟩ := hn_this
    have hF := hF.tr (hfr.wide (by omega) (by omega))
    cases hf
    exact hprop hM hqE hv9 hcl9 ⟨hne, hE, ⟨hc_this, hp_this_marsh, hp_this_snapshot, hp_this_history, hp_this_ways, hp_this_pairing, hp_this_reader, hp_this_commandText, hp_this_line, hp_this_spareMoves⟩, hF⟩ (Nat.le_of_ble_eq_true rfl) (Nat.le_of_ble_eq_true rfl)
  obtain ⟨h0, hr, hn_this, hfr⟩ := hw
  rw [if_pos h0] at hf
  rw [hr]
  obtain ⟨hc_this, hp_this_marsh, hp_this_snapshot, hp_this_history, hp_this_ways, hp_this_pairing, hp_this_reader, hp_this_commandText, hp_this_line, hp_this_spareMoves⟩ := hn_this
  have hF := hF.tr (hfr.wide (by omega) (by omega))
  cases hf
  exact hret hM dX12_breakReed_24 rfl ⟨rfl, rfl, ⟨hc_this, hp_this_marsh, hp_this_snapshot, hp_this_history, hp_this_ways, hp_this_pairing, hp_this_reader, hp_this_commandText, hp_this_line, hp_this_spareMoves⟩, hF⟩ (Nat.le_of_ble_eq_true rfl) (Nat.le_of_ble_eq_true rfl)
def f_X12_removeReed (marsh_reeds_states : Nat → Int32) (marsh_reeds_count : Int32) (marsh_reeds_broken : Int32) (marsh_fleet_numbers : Nat → Int32) (marsh_fleet_cells : Nat → Int32) (marsh_fleet_fares : Nat → Int32) (marsh_fleet_count : Int32) (marsh_fleet_nextNumber : Int32) (marsh_fleet_total : Int32) (marsh_fleet_removedFares : Int32) (marsh_fleet_meetings : Int32) (marsh_plans_moves : Nat → Int32) (marsh_plans_lengths : Nat → Int32) (marsh_landings_cells : Nat → Int32) (marsh_landings_count : Int32) (marsh_fogSide : Int32) (history_slots : Nat → mm_MV) (history_free : Int32) (history_count : Int32) (x1 : Int32) (x2 : Int32) : Option (Nat × Int32 × (Nat → Int32) × Int32 × Int32 × (Nat → mm_MV) × Int32 × Int32) := (f_X4_note history_slots history_free marsh_reeds_states marsh_reeds_count marsh_reeds_broken marsh_fleet_numbers marsh_fleet_cells marsh_fleet_fares marsh_fleet_count marsh_fleet_nextNumber marsh_fleet_total marsh_fleet_removedFares marsh_fleet_meetings marsh_plans_moves marsh_plans_lengths marsh_landings_cells marsh_landings_count marsh_fogSide).bind fun q8 => (f_X6_cutReed marsh_reeds_states marsh_reeds_count marsh_reeds_broken x1 x2).bind fun q18 => (f_X12_settled history_free history_count q18.1).bind fun q21 => if q21.1 = 0 then some (0, q21.2.1, q18.2.1, q18.2.2.1, q18.2.2.2, q8, q21.2.2.1, q21.2.2.2) else some (q21.1, 0, q18.2.1, q18.2.2.1, q18.2.2.2, q8, q21.2.2.1, q21.2.2.2)
set_option maxHeartbeats 4000000 in
set_option maxRecDepth 100000 in
theorem c_X12_removeReed (l : Launch) (hfl : l.stackTraces = false) {G : mm_G} {w : va_W} {sz : Nat} {b : Nat} {marsh_reeds_states : Nat → Int32} {marsh_reeds_count : Int32} {marsh_reeds_broken : Int32} {marsh_fleet_numbers : Nat → Int32} {marsh_fleet_cells : Nat → Int32} {marsh_fleet_fares : Nat → Int32} {marsh_fleet_count : Int32} {marsh_fleet_nextNumber : Int32} {marsh_fleet_total : Int32} {marsh_fleet_removedFares : Int32} {marsh_fleet_meetings : Int32} {marsh_plans_moves : Nat → Int32} {marsh_plans_lengths : Nat → Int32} {marsh_landings_cells : Nat → Int32} {marsh_landings_count : Int32} {marsh_fogSide : Int32} {snapshot_reeds_states : Nat → Int32} {snapshot_reeds_count : Int32} {snapshot_reeds_broken : Int32} {snapshot_fleet_numbers : Nat → Int32} {snapshot_fleet_cells : Nat → Int32} {snapshot_fleet_fares : Nat → Int32} {snapshot_fleet_count : Int32} {snapshot_fleet_nextNumber : Int32} {snapshot_fleet_total : Int32} {snapshot_fleet_removedFares : Int32} {snapshot_fleet_meetings : Int32} {snapshot_plans_moves : Nat → Int32} {snapshot_plans_lengths : Nat → Int32} {snapshot_landings_cells : Nat → Int32} {snapshot_landings_count : Int32} {snapshot_fogSide : Int32} {history_slots : Nat → mm_MV} {history_free : Int32} {history_count : Int32} {ways_tolls : Nat → Int32} {ways_queue : Nat → Int32} {ways_heap : Nat → Int32} {ways_heapSize : Int32} {ways_found : Nat → Int32} {ways_improved : Nat → Int32} {pairing_costs : Nat → Int32} {pairing_best : Nat → Int32} {reader_kinds : Nat → Int32} {reader_starts : Nat → Int32} {reader_count : Int32} {commandText_signs : Nat → Int32} {commandText_length : Int32} {line_signs : Nat → Int32} {line_length : Int32} {spareMoves : Nat → Int32} {snapshotTaken : Int32} {lastErrorPosition : Int32} {lastFailedCommand : Int32} {x1 : Int32} {x2 : Int32} {X : Nat × Int32 × (Nat → Int32) × Int32 × Int32 × (Nat → mm_MV) × Int32 × Int32} (hf : f_X12_removeReed marsh_reeds_states marsh_reeds_count marsh_reeds_broken marsh_fleet_numbers marsh_fleet_cells marsh_fleet_fares marsh_fleet_count marsh_fleet_nextNumber marsh_fleet_total marsh_fleet_removedFares marsh_fleet_meetings marsh_plans_moves marsh_plans_lengths marsh_landings_cells marsh_landings_count marsh_fogSide history_slots history_free history_count x1 x2 = some X) (hp_this : At12 G w b marsh_reeds_states marsh_reeds_count marsh_reeds_broken marsh_fleet_numbers marsh_fleet_cells marsh_fleet_fares marsh_fleet_count marsh_fleet_nextNumber marsh_fleet_total marsh_fleet_removedFares marsh_fleet_meetings marsh_plans_moves marsh_plans_lengths marsh_landings_cells marsh_landings_count marsh_fogSide snapshot_reeds_states snapshot_reeds_count snapshot_reeds_broken snapshot_fleet_numbers snapshot_fleet_cells snapshot_fleet_fares snapshot_fleet_count snapshot_fleet_nextNumber snapshot_fleet_total snapshot_fleet_removedFares snapshot_fleet_meetings snapshot_plans_moves snapshot_plans_lengths snapshot_landings_cells snapshot_landings_count snapshot_fogSide history_slots history_free history_count ways_tolls ways_queue ways_heap ways_heapSize ways_found ways_improved pairing_costs pairing_best reader_kinds reader_starts reader_count commandText_signs commandText_length line_signs line_length spareMoves snapshotTaken lastErrorPosition lastFailedCommand) : vx_Met l yX12_removeReed (Cond.code yX12_removeReed cX12_removeReed 3 (some .int) :: gAll) ({ frames := 8, cells := 1, slots := 6, locals := 141 }) (va_Pc [.ref b, .int x1, .int x2] (mm_Pre G w sz)) (mm_Qi G w sz (fun r w' => X.1 = 0 ∧ r = X.2.1 ∧ At12 G w' b X.2.2.1 X.2.2.2.1 X.2.2.2.2.1 marsh_fleet_numbers marsh_fleet_cells marsh_fleet_fares marsh_fleet_count marsh_fleet_nextNumber marsh_fleet_total marsh_fleet_removedFares marsh_fleet_meetings marsh_plans_moves marsh_plans_lengths marsh_landings_cells marsh_landings_count marsh_fogSide snapshot_reeds_states snapshot_reeds_count snapshot_reeds_broken snapshot_fleet_numbers snapshot_fleet_cells snapshot_fleet_fares snapshot_fleet_count snapshot_fleet_nextNumber snapshot_fleet_total snapshot_fleet_removedFares snapshot_fleet_meetings snapshot_plans_moves snapshot_plans_lengths snapshot_landings_cells snapshot_landings_count snapshot_fogSide X.2.2.2.2.2.1 X.2.2.2.2.2.2.1 X.2.2.2.2.2.2.2 ways_tolls ways_queue ways_heap ways_heapSize ways_found ways_improved pairing_costs pairing_best reader_kinds reader_starts reader_count commandText_signs commandText_length line_signs line_length spareMoves snapshotTaken lastErrorPosition lastFailedCommand ∧ mm_fr w w' b (b + 152))) (mm_QX G w sz (fun E w' => X.1 ≠ 0 ∧ E = mm_ex X.1 ∧ At12 G w' b X.2.2.1 X.2.2.2.1 X.2.2.2.2.1 marsh_fleet_numbers marsh_fleet_cells marsh_fleet_fares marsh_fleet_count marsh_fleet_nextNumber marsh_fleet_total marsh_fleet_removedFares marsh_fleet_meetings marsh_plans_moves marsh_plans_lengths marsh_landings_cells marsh_landings_count marsh_fogSide snapshot_reeds_states snapshot_reeds_count snapshot_reeds_broken snapshot_fleet_numbers snapshot_fleet_cells snapshot_fleet_fares snapshot_fleet_count snapshot_fleet_nextNumber snapshot_fleet_total snapshot_fleet_removedFares snapshot_fleet_meetings snapshot_plans_moves snapshot_plans_lengths snapshot_landings_cells snapshot_landings_count snapshot_fogSide X.2.2.2.2.2.1 X.2.2.2.2.2.2.1 X.2.2.2.2.2.2.2 ways_tolls ways_queue ways_heap ways_heapSize ways_found ways_improved pairing_costs pairing_best reader_kinds reader_starts reader_count commandText_signs commandText_length line_signs line_length spareMoves snapshotTaken lastErrorPosition lastFailedCommand ∧ mm_fr w w' b (b + 152))) 1 6 (va_A w sz) := by
  refine mm_xheadI hfl [.ref b, .int x1, .int x2] (by decide +kernel) rfl (Nat.le_of_ble_eq_true rfl) rfl rfl ?_
  intro p e s m args below meth c A Q hsz hC hM hret hprop hthrow ls hl
  have hx := hC.1.1
  have hb := hC.1.2.1
  have hl : lv_has ls 3 [(0, .ref b), (1, .int x1), (2, .int x2)] := hl
  have hF : mm_fr w w b (b + 152) := mm_fr.rf
  rw [f_X12_removeReed] at hf
  obtain ⟨hc_this, hp_this_marsh, hp_this_snapshot, hp_this_history, hp_this_ways, hp_this_pairing, hp_this_reader, hp_this_commandText, hp_this_line, hp_this_spareMoves⟩ := hp_this
  refine lv_aload_n hx hb dX12_removeReed_0 rfl (lv_at hl 0 rfl) ?_
  refine mm_get hC hM (k := 2) hc_this rfl inAX12 (by decide) q2_18 rfl dX12_removeReed_1 ?_
  refine lv_aload_n hx hb dX12_removeReed_4 rfl (lv_at hl 0 rfl) ?_
  refine mm_get hC hM (k := 0) hc_this rfl inAX12 (by decide) q2_16 rfl dX12_removeReed_5 ?_
  obtain ⟨q8, hq8, hf⟩ := mm_bd hf
  refine mm_Vv (rest := []) hC hM (c_X4_note l hq8 hp_this_history hp_this_marsh (by omega)) q3_178 q1_7 ykX4_note q3_175 q3_176 q3_177 hp_this_history.1 rfl ⟨rfl, rfl⟩ ⟨Nat.le_of_ble_eq_true rfl, Nat.le_of_ble_eq_true rfl⟩ rfl hl.1 rfl (Nat.le_of_ble_eq_true rfl) dX12_removeReed_8 ⟨Nat.le_of_ble_eq_true rfl, Nat.le_of_ble_eq_true rfl⟩ (fun w8 H locs hM hw => ?_)
  obtain ⟨hn_this, hfr⟩ := hw
  have hc_this := hfr.keep hc_this (by omega)
  have hp_this_spareMoves := hfr.keep hp_this_spareMoves (by omega)
  have hp_this_marsh := hp_this_marsh.keep hfr (by omega)
  have hp_this_snapshot := hp_this_snapshot.keep hfr (by omega)
  have hp_this_ways := hp_this_ways.keep hfr (by omega)
  have hp_this_pairing := hp_this_pairing.keep hfr (by omega)
  have hp_this_reader := hp_this_reader.keep hfr (by omega)
  have hp_this_commandText := hp_this_commandText.keep hfr (by omega)
  have hp_this_line := hp_this_line.keep hfr (by omega)
  have hp_this_history := hn_this
  have hF := hF.tr (hfr.wide (by omega) (by omega))
  refine lv_aload_n hx hb dX12_removeReed_11 rfl (lv_at hl 0 rfl) ?_
  refine lv_aload_n hx hb dX12_removeReed_12 rfl (lv_at hl 0 rfl) ?_
  refine mm_get hC hM (k := 0) hc_this rfl inAX12 (by decide) q2_16 rfl dX12_removeReed_13 ?_
  refine lv_iload_n hx hb dX12_removeReed_16 rfl (lv_at hl 1 rfl) ?_
  refine lv_iload_n hx hb dX12_removeReed_17 rfl (lv_at hl 2 rfl) ?_
  obtain ⟨q18, hq18, hf⟩ := mm_bd hf
  refine mm_Vi (rest := [.ref b]) hC hM (c_X6_cutReed l hq18 hp_this_marsh) q4_74 q1_2 ykX6_cutReed q4_71 q4_72 q4_73 hp_this_marsh.1 rfl ⟨rfl, rfl⟩ ⟨Nat.le_of_ble_eq_true rfl, Nat.le_of_ble_eq_true rfl⟩ rfl hl.1 rfl (Nat.le_of_ble_eq_true rfl) dX12_removeReed_18 ⟨Nat.le_of_ble_eq_true rfl, Nat.le_of_ble_eq_true rfl⟩ (fun r w18 H locs hM hw => ?_)
  obtain ⟨hr, hn_this, hfr⟩ := hw
  rw [hr]
  have hc_this := hfr.keep hc_this (by omega)
  have hp_this_spareMoves := hfr.keep hp_this_spareMoves (by omega)
  have hp_this_snapshot := hp_this_snapshot.keep hfr (by omega)
  have hp_this_history := hp_this_history.keep hfr (by omega)
  have hp_this_ways := hp_this_ways.keep hfr (by omega)
  have hp_this_pairing := hp_this_pairing.keep hfr (by omega)
  have hp_this_reader := hp_this_reader.keep hfr (by omega)
  have hp_this_commandText := hp_this_commandText.keep hfr (by omega)
  have hp_this_line := hp_this_line.keep hfr (by omega)
  have hp_this_marsh := hn_this
  have hF := hF.tr (hfr.wide (by omega) (by omega))
  obtain ⟨q21, hq21, hf⟩ := mm_bd hf
  refine mm_xVi (rest := []) hC hM (c_X12_settled l hfl hq21 ⟨hc_this, hp_this_marsh, hp_this_snapshot, hp_this_history, hp_this_ways, hp_this_pairing, hp_this_reader, hp_this_commandText, hp_this_line, hp_this_spareMoves⟩) q3_201 q1_1 ykX12_settled q3_198 q3_200 qp_bbc23764 hc_this rfl ⟨rfl, rfl⟩ ⟨Nat.le_of_ble_eq_true rfl, Nat.le_of_ble_eq_true rfl⟩ rfl hl.1 rfl (Nat.le_of_ble_eq_true rfl) dX12_removeReed_21 ⟨Nat.le_of_ble_eq_true rfl, Nat.le_of_ble_eq_true rfl⟩ (fun E ce qE w21 H locs hM hw hqE hv9 hcl9 => ?_) (fun r w21 H locs hM hw => ?_)
  · obtain ⟨hne, hE, hn_this, hfr⟩ := hw
    rw [if_neg hne] at hf
    obtain ⟨hc_this, hp_this_marsh, hp_this_snapshot, hp_this_history, hp_this_ways, hp_this_pairing, hp_this_reader, hp_this_commandText, hp_this_line, hp_this_spareMoves⟩ := hn_this
    have hF := hF.tr (hfr.wide (by omega) (by omega))
    cases hf
    exact hprop hM hqE hv9 hcl9 ⟨hne, hE, ⟨hc_this, hp_this_marsh, hp_this_snapshot, hp_this_history, hp_this_ways, hp_this_pairing, hp_this_reader, hp_this_commandText, hp_this_line, hp_this_spareMoves⟩, hF⟩ (Nat.le_of_ble_eq_true rfl) (Nat.le_of_ble_eq_true rfl)
  obtain ⟨h0, hr, hn_this, hfr⟩ := hw
  rw [if_pos h0] at hf
  rw [hr]
  obtain ⟨hc_this, hp_this_marsh, hp_this_snapshot, hp_this_history, hp_this_ways, hp_this_pairing, hp_this_reader, hp_this_commandText, hp_this_line, hp_this_spareMoves⟩ := hn_this
  have hF := hF.tr (hfr.wide (by omega) (by omega))
  cases hf
  exact hret hM dX12_removeReed_24 rfl ⟨rfl, rfl, ⟨hc_this, hp_this_marsh, hp_this_snapshot, hp_this_history, hp_this_ways, hp_this_pairing, hp_this_reader, hp_this_commandText, hp_this_line, hp_this_spareMoves⟩, hF⟩ (Nat.le_of_ble_eq_true rfl) (Nat.le_of_ble_eq_true rfl)
def f_X12_existingCell (x0 : Int32) (x1 : Int32) : Option (Nat × Int32) := (f_X12_cellAt x0 x1).bind fun q2 => if q2 = (-1) then some (1, 0) else some (0, q2)
set_option maxHeartbeats 4000000 in
set_option maxRecDepth 100000 in
theorem c_X12_existingCell (l : Launch) (hfl : l.stackTraces = false) {G : mm_G} {w : va_W} {sz : Nat} {x0 : Int32} {x1 : Int32} {X : Nat × Int32} (hf : f_X12_existingCell x0 x1 = some X) : vx_Met l yX12_existingCell (Cond.code yX12_existingCell cX12_existingCell 3 (some .int) :: gAll) ({ frames := 7, cells := 1, slots := 6, locals := 120 }) (va_Pc [.int x0, .int x1] (mm_Pre G w sz)) (mm_Qi G w sz (fun r w' => X.1 = 0 ∧ r = X.2 ∧ w' = w)) (mm_QX G w sz (fun E w' => X.1 ≠ 0 ∧ E = mm_ex X.1 ∧ w' = w)) 1 6 (va_A w sz) := by
  refine mm_xheadI hfl [.int x0, .int x1] (by decide +kernel) rfl (Nat.le_of_ble_eq_true rfl) rfl rfl ?_
  intro p e s m args below meth c A Q hsz hC hM hret hprop hthrow ls hl
  have hx := hC.1.1
  have hb := hC.1.2.1
  have hl : lv_has ls 3 [(0, .int x0), (1, .int x1)] := hl
  rw [f_X12_existingCell] at hf
  refine lv_iload_n hx hb dX12_existingCell_0 rfl (lv_at hl 0 rfl) ?_
  refine lv_iload_n hx hb dX12_existingCell_1 rfl (lv_at hl 1 rfl) ?_
  obtain ⟨q2, hq2, hf⟩ := mm_bd hf
  refine mm_Si (rest := []) hC hM (c_X12_cellAt l hq2) q2_166 q1_1 ykX12_cellAt q2_164 q2_165 ⟨rfl, rfl⟩ ⟨Nat.le_of_ble_eq_true rfl, Nat.le_of_ble_eq_true rfl⟩ rfl hl.1 rfl (Nat.le_of_ble_eq_true rfl) dX12_existingCell_2 ⟨Nat.le_of_ble_eq_true rfl, Nat.le_of_ble_eq_true rfl⟩ (fun r w2 H locs hM hw => ?_)
  obtain ⟨hr, hw⟩ := hw
  rw [hr]
  rw [hw] at hM
  refine lv_istore_n (lv' := [(2, .int q2), (0, .int x0), (1, .int x1)]) hx hb dX12_existingCell_5 rfl hl (by decide) rfl (fun ls hl => ?_)
  refine lv_iload_n hx hb dX12_existingCell_6 rfl (lv_at hl 0 rfl) ?_
  refine lv_iconst (v := (-1)) hx hb dX12_existingCell_7 (by decide) ?_
  refine lv_icmp_ne (tgt := 19) hx hb dX12_existingCell_8 (by decide) (fun hcd => ?_) (fun hcd => ?_)
  · rw [if_neg hcd] at hf
    refine lv_iload_n hx hb dX12_existingCell_19 rfl (lv_at hl 0 rfl) ?_
    cases hf
    exact hret hM dX12_existingCell_20 rfl ⟨rfl, rfl, rfl⟩ (Nat.le_of_ble_eq_true rfl) (Nat.le_of_ble_eq_true rfl)
  · rw [if_pos hcd] at hf
    cases hf
    exact hthrow (names := ["java/lang/RuntimeException", "java/lang/Exception"]) hM hl.1 (by decide +kernel) (by decide +kernel) q3_202 q1_16 vxa_1 vxb_1 dX12_existingCell_11 dX12_existingCell_14 dX12_existingCell_15 dX12_existingCell_18 (by decide) (Nat.le_of_ble_eq_true rfl) (Nat.le_of_ble_eq_true rfl) (Nat.le_of_ble_eq_true rfl) ⟨(by simp), rfl, rfl⟩
def f_X12_hasReed (marsh_reeds_states : Nat → Int32) (x1 : Int32) (x2 : Int32) : Option (Nat × Int32) := (f_X12_existingCell x1 x2).bind fun q9 => if q9.1 = 0 then (f_X9_stateOf marsh_reeds_states q9.2).bind fun q12 => if q12 = 0 then some (0, 0) else some (0, 1) else some (q9.1, 0)
set_option maxHeartbeats 4000000 in
set_option maxRecDepth 100000 in
theorem c_X12_hasReed (l : Launch) (hfl : l.stackTraces = false) {G : mm_G} {w : va_W} {sz : Nat} {b : Nat} {marsh_reeds_states : Nat → Int32} {marsh_reeds_count : Int32} {marsh_reeds_broken : Int32} {marsh_fleet_numbers : Nat → Int32} {marsh_fleet_cells : Nat → Int32} {marsh_fleet_fares : Nat → Int32} {marsh_fleet_count : Int32} {marsh_fleet_nextNumber : Int32} {marsh_fleet_total : Int32} {marsh_fleet_removedFares : Int32} {marsh_fleet_meetings : Int32} {marsh_plans_moves : Nat → Int32} {marsh_plans_lengths : Nat → Int32} {marsh_landings_cells : Nat → Int32} {marsh_landings_count : Int32} {marsh_fogSide : Int32} {snapshot_reeds_states : Nat → Int32} {snapshot_reeds_count : Int32} {snapshot_reeds_broken : Int32} {snapshot_fleet_numbers : Nat → Int32} {snapshot_fleet_cells : Nat → Int32} {snapshot_fleet_fares : Nat → Int32} {snapshot_fleet_count : Int32} {snapshot_fleet_nextNumber : Int32} {snapshot_fleet_total : Int32} {snapshot_fleet_removedFares : Int32} {snapshot_fleet_meetings : Int32} {snapshot_plans_moves : Nat → Int32} {snapshot_plans_lengths : Nat → Int32} {snapshot_landings_cells : Nat → Int32} {snapshot_landings_count : Int32} {snapshot_fogSide : Int32} {history_slots : Nat → mm_MV} {history_free : Int32} {history_count : Int32} {ways_tolls : Nat → Int32} {ways_queue : Nat → Int32} {ways_heap : Nat → Int32} {ways_heapSize : Int32} {ways_found : Nat → Int32} {ways_improved : Nat → Int32} {pairing_costs : Nat → Int32} {pairing_best : Nat → Int32} {reader_kinds : Nat → Int32} {reader_starts : Nat → Int32} {reader_count : Int32} {commandText_signs : Nat → Int32} {commandText_length : Int32} {line_signs : Nat → Int32} {line_length : Int32} {spareMoves : Nat → Int32} {snapshotTaken : Int32} {lastErrorPosition : Int32} {lastFailedCommand : Int32} {x1 : Int32} {x2 : Int32} {X : Nat × Int32} (hf : f_X12_hasReed marsh_reeds_states x1 x2 = some X) (hp_this : At12 G w b marsh_reeds_states marsh_reeds_count marsh_reeds_broken marsh_fleet_numbers marsh_fleet_cells marsh_fleet_fares marsh_fleet_count marsh_fleet_nextNumber marsh_fleet_total marsh_fleet_removedFares marsh_fleet_meetings marsh_plans_moves marsh_plans_lengths marsh_landings_cells marsh_landings_count marsh_fogSide snapshot_reeds_states snapshot_reeds_count snapshot_reeds_broken snapshot_fleet_numbers snapshot_fleet_cells snapshot_fleet_fares snapshot_fleet_count snapshot_fleet_nextNumber snapshot_fleet_total snapshot_fleet_removedFares snapshot_fleet_meetings snapshot_plans_moves snapshot_plans_lengths snapshot_landings_cells snapshot_landings_count snapshot_fogSide history_slots history_free history_count ways_tolls ways_queue ways_heap ways_heapSize ways_found ways_improved pairing_costs pairing_best reader_kinds reader_starts reader_count commandText_signs commandText_length line_signs line_length spareMoves snapshotTaken lastErrorPosition lastFailedCommand) : vx_Met l yX12_hasReed (Cond.code yX12_hasReed cX12_hasReed 3 (some .boolean) :: gAll) ({ frames := 8, cells := 1, slots := 6, locals := 142 }) (va_Pc [.ref b, .int x1, .int x2] (mm_Pre G w sz)) (mm_Qi G w sz (fun r w' => X.1 = 0 ∧ r = X.2 ∧ w' = w)) (mm_QX G w sz (fun E w' => X.1 ≠ 0 ∧ E = mm_ex X.1 ∧ w' = w)) 1 6 (va_A w sz) := by
  refine mm_xheadI hfl [.ref b, .int x1, .int x2] (by decide +kernel) rfl (Nat.le_of_ble_eq_true rfl) rfl rfl ?_
  intro p e s m args below meth c A Q hsz hC hM hret hprop hthrow ls hl
  have hx := hC.1.1
  have hb := hC.1.2.1
  have hl : lv_has ls 3 [(0, .ref b), (1, .int x1), (2, .int x2)] := hl
  rw [f_X12_hasReed] at hf
  refine lv_aload_n hx hb dX12_hasReed_0 rfl (lv_at hl 0 rfl) ?_
  refine mm_get hC hM (k := 0) hp_this.1 rfl inAX12 (by decide) q2_16 rfl dX12_hasReed_1 ?_
  refine mm_get hC hM (k := 0) (hp_this.2.1).1 rfl inAX6 (by decide) q1_140 rfl dX12_hasReed_4 ?_
  refine lv_iload_n hx hb dX12_hasReed_7 rfl (lv_at hl 1 rfl) ?_
  refine lv_iload_n hx hb dX12_hasReed_8 rfl (lv_at hl 2 rfl) ?_
  obtain ⟨q9, hq9, hf⟩ := mm_bd hf
  refine mm_xSi (rest := [.ref (b + 1 + 1)]) hC hM (c_X12_existingCell l hfl hq9) q4_88 q1_1 ykX12_existingCell q4_86 q4_87 ⟨rfl, rfl⟩ ⟨Nat.le_of_ble_eq_true rfl, Nat.le_of_ble_eq_true rfl⟩ rfl hl.1 rfl (Nat.le_of_ble_eq_true rfl) dX12_hasReed_9 ⟨Nat.le_of_ble_eq_true rfl, Nat.le_of_ble_eq_true rfl⟩ (fun E ce qE w9 H locs hM hw hqE hv9 hcl9 => ?_) (fun r w9 H locs hM hw => ?_)
  · obtain ⟨hne, hE, hw⟩ := hw
    rw [if_neg hne] at hf
    rw [hw] at hM
    cases hf
    exact hprop hM hqE hv9 hcl9 ⟨hne, hE, rfl⟩ (Nat.le_of_ble_eq_true rfl) (Nat.le_of_ble_eq_true rfl)
  obtain ⟨h0, hr, hw⟩ := hw
  rw [if_pos h0] at hf
  rw [hr]
  rw [hw] at hM
  obtain ⟨q12, hq12, hf⟩ := mm_bd hf
  refine mm_Vi (rest := []) hC hM (c_X9_stateOf l hq12 ((hp_this.2.1).2.1)) q3_188 q1_3 ykX9_stateOf q4_89 q3_186 q3_187 ((hp_this.2.1).2.1).1 rfl ⟨rfl, rfl⟩ ⟨Nat.le_of_ble_eq_true rfl, Nat.le_of_ble_eq_true rfl⟩ rfl hl.1 rfl (Nat.le_of_ble_eq_true rfl) dX12_hasReed_12 ⟨Nat.le_of_ble_eq_true rfl, Nat.le_of_ble_eq_true rfl⟩ (fun r w12 H locs hM hw => ?_)
  obtain ⟨hr, hw⟩ := hw
  rw [hr]
  rw [hw] at hM
  refine lv_if_eq (tgt := 22) hx hb dX12_hasReed_15 (by decide) (fun hcd => ?_) (fun hcd => ?_)
  · rw [if_pos hcd] at hf
    refine lv_iconst (v := 0) hx hb dX12_hasReed_22 (by decide) ?_
    cases hf
    exact hret hM dX12_hasReed_23 rfl ⟨rfl, rfl, rfl⟩ (Nat.le_of_ble_eq_true rfl) (Nat.le_of_ble_eq_true rfl)
  · rw [if_neg hcd] at hf
    refine lv_iconst (v := 1) hx hb dX12_hasReed_18 (by decide) ?_
    refine lv_goto (tgt := 23) hx hb dX12_hasReed_19 (by decide) ?_
    cases hf
    exact hret hM dX12_hasReed_23 rfl ⟨rfl, rfl, rfl⟩ (Nat.le_of_ble_eq_true rfl) (Nat.le_of_ble_eq_true rfl)
def f_X12_isPassable (marsh_reeds_states : Nat → Int32) (x1 : Int32) (x2 : Int32) : Option (Nat × Int32) := (f_X12_existingCell x1 x2).bind fun q9 => if q9.1 = 0 then (f_X9_isOpen marsh_reeds_states q9.2).bind fun q12 => mm_g (decide (q12 = 0 ∨ q12 = 1)) (some (0, q12)) else some (q9.1, 0)
set_option maxHeartbeats 4000000 in
set_option maxRecDepth 100000 in
theorem c_X12_isPassable (l : Launch) (hfl : l.stackTraces = false) {G : mm_G} {w : va_W} {sz : Nat} {b : Nat} {marsh_reeds_states : Nat → Int32} {marsh_reeds_count : Int32} {marsh_reeds_broken : Int32} {marsh_fleet_numbers : Nat → Int32} {marsh_fleet_cells : Nat → Int32} {marsh_fleet_fares : Nat → Int32} {marsh_fleet_count : Int32} {marsh_fleet_nextNumber : Int32} {marsh_fleet_total : Int32} {marsh_fleet_removedFares : Int32} {marsh_fleet_meetings : Int32} {marsh_plans_moves : Nat → Int32} {marsh_plans_lengths : Nat → Int32} {marsh_landings_cells : Nat → Int32} {marsh_landings_count : Int32} {marsh_fogSide : Int32} {snapshot_reeds_states : Nat → Int32} {snapshot_reeds_count : Int32} {snapshot_reeds_broken : Int32} {snapshot_fleet_numbers : Nat → Int32} {snapshot_fleet_cells : Nat → Int32} {snapshot_fleet_fares : Nat → Int32} {snapshot_fleet_count : Int32} {snapshot_fleet_nextNumber : Int32} {snapshot_fleet_total : Int32} {snapshot_fleet_removedFares : Int32} {snapshot_fleet_meetings : Int32} {snapshot_plans_moves : Nat → Int32} {snapshot_plans_lengths : Nat → Int32} {snapshot_landings_cells : Nat → Int32} {snapshot_landings_count : Int32} {snapshot_fogSide : Int32} {history_slots : Nat → mm_MV} {history_free : Int32} {history_count : Int32} {ways_tolls : Nat → Int32} {ways_queue : Nat → Int32} {ways_heap : Nat → Int32} {ways_heapSize : Int32} {ways_found : Nat → Int32} {ways_improved : Nat → Int32} {pairing_costs : Nat → Int32} {pairing_best : Nat → Int32} {reader_kinds : Nat → Int32} {reader_starts : Nat → Int32} {reader_count : Int32} {commandText_signs : Nat → Int32} {commandText_length : Int32} {line_signs : Nat → Int32} {line_length : Int32} {spareMoves : Nat → Int32} {snapshotTaken : Int32} {lastErrorPosition : Int32} {lastFailedCommand : Int32} {x1 : Int32} {x2 : Int32} {X : Nat × Int32} (hf : f_X12_isPassable marsh_reeds_states x1 x2 = some X) (hp_this : At12 G w b marsh_reeds_states marsh_reeds_count marsh_reeds_broken marsh_fleet_numbers marsh_fleet_cells marsh_fleet_fares marsh_fleet_count marsh_fleet_nextNumber marsh_fleet_total marsh_fleet_removedFares marsh_fleet_meetings marsh_plans_moves marsh_plans_lengths marsh_landings_cells marsh_landings_count marsh_fogSide snapshot_reeds_states snapshot_reeds_count snapshot_reeds_broken snapshot_fleet_numbers snapshot_fleet_cells snapshot_fleet_fares snapshot_fleet_count snapshot_fleet_nextNumber snapshot_fleet_total snapshot_fleet_removedFares snapshot_fleet_meetings snapshot_plans_moves snapshot_plans_lengths snapshot_landings_cells snapshot_landings_count snapshot_fogSide history_slots history_free history_count ways_tolls ways_queue ways_heap ways_heapSize ways_found ways_improved pairing_costs pairing_best reader_kinds reader_starts reader_count commandText_signs commandText_length line_signs line_length spareMoves snapshotTaken lastErrorPosition lastFailedCommand) : vx_Met l yX12_isPassable (Cond.code yX12_isPassable cX12_isPassable 3 (some .boolean) :: gAll) ({ frames := 8, cells := 1, slots := 6, locals := 142 }) (va_Pc [.ref b, .int x1, .int x2] (mm_Pre G w sz)) (mm_Qi G w sz (fun r w' => X.1 = 0 ∧ r = X.2 ∧ w' = w)) (mm_QX G w sz (fun E w' => X.1 ≠ 0 ∧ E = mm_ex X.1 ∧ w' = w)) 1 6 (va_A w sz) := by
  refine mm_xheadI hfl [.ref b, .int x1, .int x2] (by decide +kernel) rfl (Nat.le_of_ble_eq_true rfl) rfl rfl ?_
  intro p e s m args below meth c A Q hsz hC hM hret hprop hthrow ls hl
  have hx := hC.1.1
  have hb := hC.1.2.1
  have hl : lv_has ls 3 [(0, .ref b), (1, .int x1), (2, .int x2)] := hl
  rw [f_X12_isPassable] at hf
  refine lv_aload_n hx hb dX12_isPassable_0 rfl (lv_at hl 0 rfl) ?_
  refine mm_get hC hM (k := 0) hp_this.1 rfl inAX12 (by decide) q2_16 rfl dX12_isPassable_1 ?_
  refine mm_get hC hM (k := 0) (hp_this.2.1).1 rfl inAX6 (by decide) q1_140 rfl dX12_isPassable_4 ?_
  refine lv_iload_n hx hb dX12_isPassable_7 rfl (lv_at hl 1 rfl) ?_
  refine lv_iload_n hx hb dX12_isPassable_8 rfl (lv_at hl 2 rfl) ?_
  obtain ⟨q9, hq9, hf⟩ := mm_bd hf
  refine mm_xSi (rest := [.ref (b + 1 + 1)]) hC hM (c_X12_existingCell l hfl hq9) q4_88 q1_1 ykX12_existingCell q4_86 q4_87 ⟨rfl, rfl⟩ ⟨Nat.le_of_ble_eq_true rfl, Nat.le_of_ble_eq_true rfl⟩ rfl hl.1 rfl (Nat.le_of_ble_eq_true rfl) dX12_isPassable_9 ⟨Nat.le_of_ble_eq_true rfl, Nat.le_of_ble_eq_true rfl⟩ (fun E ce qE w9 H locs hM hw hqE hv9 hcl9 => ?_) (fun r w9 H locs hM hw => ?_)
  · obtain ⟨hne, hE, hw⟩ := hw
    rw [if_neg hne] at hf
    rw [hw] at hM
    cases hf
    exact hprop hM hqE hv9 hcl9 ⟨hne, hE, rfl⟩ (Nat.le_of_ble_eq_true rfl) (Nat.le_of_ble_eq_true rfl)
  obtain ⟨h0, hr, hw⟩ := hw
  rw [if_pos h0] at hf
  rw [hr]
  rw [hw] at hM
  obtain ⟨q12, hq12, hf⟩ := mm_bd hf
  refine mm_Vi (rest := []) hC hM (c_X9_isOpen l hq12 ((hp_this.2.1).2.1)) q2_129 q1_3 ykX9_isOpen q4_97 q2_127 q2_128 ((hp_this.2.1).2.1).1 rfl ⟨rfl, rfl⟩ ⟨Nat.le_of_ble_eq_true rfl, Nat.le_of_ble_eq_true rfl⟩ rfl hl.1 rfl (Nat.le_of_ble_eq_true rfl) dX12_isPassable_12 ⟨Nat.le_of_ble_eq_true rfl, Nat.le_of_ble_eq_true rfl⟩ (fun r w12 H locs hM hw => ?_)
  obtain ⟨hr, hw⟩ := hw
  rw [hr]
  rw [hw] at hM
  obtain ⟨hgr, hf⟩ := mm_gb hf
  cases hf
  exact hret hM dX12_isPassable_15 (mm_narZ (of_decide_eq_true hgr)) ⟨rfl, rfl, rfl⟩ (Nat.le_of_ble_eq_true rfl) (Nat.le_of_ble_eq_true rfl)
def f_X12_reedCount (marsh_reeds_count : Int32) : Option (Int32) := some marsh_reeds_count
set_option maxHeartbeats 4000000 in
set_option maxRecDepth 100000 in
theorem c_X12_reedCount (l : Launch) {G : mm_G} {w : va_W} {sz : Nat} {b : Nat} {marsh_reeds_states : Nat → Int32} {marsh_reeds_count : Int32} {marsh_reeds_broken : Int32} {marsh_fleet_numbers : Nat → Int32} {marsh_fleet_cells : Nat → Int32} {marsh_fleet_fares : Nat → Int32} {marsh_fleet_count : Int32} {marsh_fleet_nextNumber : Int32} {marsh_fleet_total : Int32} {marsh_fleet_removedFares : Int32} {marsh_fleet_meetings : Int32} {marsh_plans_moves : Nat → Int32} {marsh_plans_lengths : Nat → Int32} {marsh_landings_cells : Nat → Int32} {marsh_landings_count : Int32} {marsh_fogSide : Int32} {snapshot_reeds_states : Nat → Int32} {snapshot_reeds_count : Int32} {snapshot_reeds_broken : Int32} {snapshot_fleet_numbers : Nat → Int32} {snapshot_fleet_cells : Nat → Int32} {snapshot_fleet_fares : Nat → Int32} {snapshot_fleet_count : Int32} {snapshot_fleet_nextNumber : Int32} {snapshot_fleet_total : Int32} {snapshot_fleet_removedFares : Int32} {snapshot_fleet_meetings : Int32} {snapshot_plans_moves : Nat → Int32} {snapshot_plans_lengths : Nat → Int32} {snapshot_landings_cells : Nat → Int32} {snapshot_landings_count : Int32} {snapshot_fogSide : Int32} {history_slots : Nat → mm_MV} {history_free : Int32} {history_count : Int32} {ways_tolls : Nat → Int32} {ways_queue : Nat → Int32} {ways_heap : Nat → Int32} {ways_heapSize : Int32} {ways_found : Nat → Int32} {ways_improved : Nat → Int32} {pairing_costs : Nat → Int32} {pairing_best : Nat → Int32} {reader_kinds : Nat → Int32} {reader_starts : Nat → Int32} {reader_count : Int32} {commandText_signs : Nat → Int32} {commandText_length : Int32} {line_signs : Nat → Int32} {line_length : Int32} {spareMoves : Nat → Int32} {snapshotTaken : Int32} {lastErrorPosition : Int32} {lastFailedCommand : Int32} {X : Int32} (hf : f_X12_reedCount marsh_reeds_count = some X) (hp_this : At12 G w b marsh_reeds_states marsh_reeds_count marsh_reeds_broken marsh_fleet_numbers marsh_fleet_cells marsh_fleet_fares marsh_fleet_count marsh_fleet_nextNumber marsh_fleet_total marsh_fleet_removedFares marsh_fleet_meetings marsh_plans_moves marsh_plans_lengths marsh_landings_cells marsh_landings_count marsh_fogSide snapshot_reeds_states snapshot_reeds_count snapshot_reeds_broken snapshot_fleet_numbers snapshot_fleet_cells snapshot_fleet_fares snapshot_fleet_count snapshot_fleet_nextNumber snapshot_fleet_total snapshot_fleet_removedFares snapshot_fleet_meetings snapshot_plans_moves snapshot_plans_lengths snapshot_landings_cells snapshot_landings_count snapshot_fogSide history_slots history_free history_count ways_tolls ways_queue ways_heap ways_heapSize ways_found ways_improved pairing_costs pairing_best reader_kinds reader_starts reader_count commandText_signs commandText_length line_signs line_length spareMoves snapshotTaken lastErrorPosition lastFailedCommand) : Met l yX12_reedCount (Cond.code yX12_reedCount cX12_reedCount 1 (some .int) :: gAll) ({ frames := 0, cells := 0, slots := 0, locals := 0 }) (va_Pc [.ref b] (mm_Pre G w sz)) (mm_Qi G w sz (fun r w' => r = X ∧ w' = w)) 0 0 (va_A w sz) := by
  refine mm_headI [.ref b] (by decide +kernel) rfl (Nat.le_of_ble_eq_true rfl) ?_
  intro p e s m args below meth c A Q hsz hC hM hret ls hl
  have hx := hC.1.1
  have hb := hC.1.2.1
  have hl : lv_has ls 1 [(0, .ref b)] := hl
  rw [f_X12_reedCount] at hf
  refine lv_aload_n hx hb dX12_reedCount_0 rfl (lv_at hl 0 rfl) ?_
  refine mm_get hC hM (k := 0) hp_this.1 rfl inAX12 (by decide) q2_16 rfl dX12_reedCount_1 ?_
  refine mm_get hC hM (k := 0) (hp_this.2.1).1 rfl inAX6 (by decide) q1_140 rfl dX12_reedCount_4 ?_
  refine mm_get hC hM (k := 1) ((hp_this.2.1).2.1).1 rfl inAX9 (by decide) q1_56 rfl dX12_reedCount_7 ?_
  cases hf
  exact hret hM dX12_reedCount_10 rfl ⟨rfl, rfl⟩
def f_X12_brokenCount (marsh_reeds_broken : Int32) : Option (Int32) := some marsh_reeds_broken
set_option maxHeartbeats 4000000 in
set_option maxRecDepth 100000 in
theorem c_X12_brokenCount (l : Launch) {G : mm_G} {w : va_W} {sz : Nat} {b : Nat} {marsh_reeds_states : Nat → Int32} {marsh_reeds_count : Int32} {marsh_reeds_broken : Int32} {marsh_fleet_numbers : Nat → Int32} {marsh_fleet_cells : Nat → Int32} {marsh_fleet_fares : Nat → Int32} {marsh_fleet_count : Int32} {marsh_fleet_nextNumber : Int32} {marsh_fleet_total : Int32} {marsh_fleet_removedFares : Int32} {marsh_fleet_meetings : Int32} {marsh_plans_moves : Nat → Int32} {marsh_plans_lengths : Nat → Int32} {marsh_landings_cells : Nat → Int32} {marsh_landings_count : Int32} {marsh_fogSide : Int32} {snapshot_reeds_states : Nat → Int32} {snapshot_reeds_count : Int32} {snapshot_reeds_broken : Int32} {snapshot_fleet_numbers : Nat → Int32} {snapshot_fleet_cells : Nat → Int32} {snapshot_fleet_fares : Nat → Int32} {snapshot_fleet_count : Int32} {snapshot_fleet_nextNumber : Int32} {snapshot_fleet_total : Int32} {snapshot_fleet_removedFares : Int32} {snapshot_fleet_meetings : Int32} {snapshot_plans_moves : Nat → Int32} {snapshot_plans_lengths : Nat → Int32} {snapshot_landings_cells : Nat → Int32} {snapshot_landings_count : Int32} {snapshot_fogSide : Int32} {history_slots : Nat → mm_MV} {history_free : Int32} {history_count : Int32} {ways_tolls : Nat → Int32} {ways_queue : Nat → Int32} {ways_heap : Nat → Int32} {ways_heapSize : Int32} {ways_found : Nat → Int32} {ways_improved : Nat → Int32} {pairing_costs : Nat → Int32} {pairing_best : Nat → Int32} {reader_kinds : Nat → Int32} {reader_starts : Nat → Int32} {reader_count : Int32} {commandText_signs : Nat → Int32} {commandText_length : Int32} {line_signs : Nat → Int32} {line_length : Int32} {spareMoves : Nat → Int32} {snapshotTaken : Int32} {lastErrorPosition : Int32} {lastFailedCommand : Int32} {X : Int32} (hf : f_X12_brokenCount marsh_reeds_broken = some X) (hp_this : At12 G w b marsh_reeds_states marsh_reeds_count marsh_reeds_broken marsh_fleet_numbers marsh_fleet_cells marsh_fleet_fares marsh_fleet_count marsh_fleet_nextNumber marsh_fleet_total marsh_fleet_removedFares marsh_fleet_meetings marsh_plans_moves marsh_plans_lengths marsh_landings_cells marsh_landings_count marsh_fogSide snapshot_reeds_states snapshot_reeds_count snapshot_reeds_broken snapshot_fleet_numbers snapshot_fleet_cells snapshot_fleet_fares snapshot_fleet_count snapshot_fleet_nextNumber snapshot_fleet_total snapshot_fleet_removedFares snapshot_fleet_meetings snapshot_plans_moves snapshot_plans_lengths snapshot_landings_cells snapshot_landings_count snapshot_fogSide history_slots history_free history_count ways_tolls ways_queue ways_heap ways_heapSize ways_found ways_improved pairing_costs pairing_best reader_kinds reader_starts reader_count commandText_signs commandText_length line_signs line_length spareMoves snapshotTaken lastErrorPosition lastFailedCommand) : Met l yX12_brokenCount (Cond.code yX12_brokenCount cX12_brokenCount 1 (some .int) :: gAll) ({ frames := 0, cells := 0, slots := 0, locals := 0 }) (va_Pc [.ref b] (mm_Pre G w sz)) (mm_Qi G w sz (fun r w' => r = X ∧ w' = w)) 0 0 (va_A w sz) := by
  refine mm_headI [.ref b] (by decide +kernel) rfl (Nat.le_of_ble_eq_true rfl) ?_
  intro p e s m args below meth c A Q hsz hC hM hret ls hl
  have hx := hC.1.1
  have hb := hC.1.2.1
  have hl : lv_has ls 1 [(0, .ref b)] := hl
  rw [f_X12_brokenCount] at hf
  refine lv_aload_n hx hb dX12_brokenCount_0 rfl (lv_at hl 0 rfl) ?_
  refine mm_get hC hM (k := 0) hp_this.1 rfl inAX12 (by decide) q2_16 rfl dX12_brokenCount_1 ?_
  refine mm_get hC hM (k := 0) (hp_this.2.1).1 rfl inAX6 (by decide) q1_140 rfl dX12_brokenCount_4 ?_
  refine mm_get hC hM (k := 2) ((hp_this.2.1).2.1).1 rfl inAX9 (by decide) q1_58 rfl dX12_brokenCount_7 ?_
  cases hf
  exact hret hM dX12_brokenCount_10 rfl ⟨rfl, rfl⟩
def f_X12_oddReeds (K : Nat) (marsh_reeds_states : Nat → Int32) : Option (Int32) := (f_X9_oddByCells K marsh_reeds_states).bind fun q7 => some q7
set_option maxHeartbeats 4000000 in
set_option maxRecDepth 100000 in
theorem c_X12_oddReeds (l : Launch) {G : mm_G} {K : Nat} {w : va_W} {sz : Nat} {b : Nat} {marsh_reeds_states : Nat → Int32} {marsh_reeds_count : Int32} {marsh_reeds_broken : Int32} {marsh_fleet_numbers : Nat → Int32} {marsh_fleet_cells : Nat → Int32} {marsh_fleet_fares : Nat → Int32} {marsh_fleet_count : Int32} {marsh_fleet_nextNumber : Int32} {marsh_fleet_total : Int32} {marsh_fleet_removedFares : Int32} {marsh_fleet_meetings : Int32} {marsh_plans_moves : Nat → Int32} {marsh_plans_lengths : Nat → Int32} {marsh_landings_cells : Nat → Int32} {marsh_landings_count : Int32} {marsh_fogSide : Int32} {snapshot_reeds_states : Nat → Int32} {snapshot_reeds_count : Int32} {snapshot_reeds_broken : Int32} {snapshot_fleet_numbers : Nat → Int32} {snapshot_fleet_cells : Nat → Int32} {snapshot_fleet_fares : Nat → Int32} {snapshot_fleet_count : Int32} {snapshot_fleet_nextNumber : Int32} {snapshot_fleet_total : Int32} {snapshot_fleet_removedFares : Int32} {snapshot_fleet_meetings : Int32} {snapshot_plans_moves : Nat → Int32} {snapshot_plans_lengths : Nat → Int32} {snapshot_landings_cells : Nat → Int32} {snapshot_landings_count : Int32} {snapshot_fogSide : Int32} {history_slots : Nat → mm_MV} {history_free : Int32} {history_count : Int32} {ways_tolls : Nat → Int32} {ways_queue : Nat → Int32} {ways_heap : Nat → Int32} {ways_heapSize : Int32} {ways_found : Nat → Int32} {ways_improved : Nat → Int32} {pairing_costs : Nat → Int32} {pairing_best : Nat → Int32} {reader_kinds : Nat → Int32} {reader_starts : Nat → Int32} {reader_count : Int32} {commandText_signs : Nat → Int32} {commandText_length : Int32} {line_signs : Nat → Int32} {line_length : Int32} {spareMoves : Nat → Int32} {snapshotTaken : Int32} {lastErrorPosition : Int32} {lastFailedCommand : Int32} {X : Int32} (hf : f_X12_oddReeds K marsh_reeds_states = some X) (hp_this : At12 G w b marsh_reeds_states marsh_reeds_count marsh_reeds_broken marsh_fleet_numbers marsh_fleet_cells marsh_fleet_fares marsh_fleet_count marsh_fleet_nextNumber marsh_fleet_total marsh_fleet_removedFares marsh_fleet_meetings marsh_plans_moves marsh_plans_lengths marsh_landings_cells marsh_landings_count marsh_fogSide snapshot_reeds_states snapshot_reeds_count snapshot_reeds_broken snapshot_fleet_numbers snapshot_fleet_cells snapshot_fleet_fares snapshot_fleet_count snapshot_fleet_nextNumber snapshot_fleet_total snapshot_fleet_removedFares snapshot_fleet_meetings snapshot_plans_moves snapshot_plans_lengths snapshot_landings_cells snapshot_landings_count snapshot_fogSide history_slots history_free history_count ways_tolls ways_queue ways_heap ways_heapSize ways_found ways_improved pairing_costs pairing_best reader_kinds reader_starts reader_count commandText_signs commandText_length line_signs line_length spareMoves snapshotTaken lastErrorPosition lastFailedCommand) : Met l yX12_oddReeds (Cond.code yX12_oddReeds cX12_oddReeds 1 (some .int) :: gAll) ({ frames := 2, cells := 0, slots := 0, locals := 43 }) (va_Pc [.ref b] (mm_Pre G w sz)) (mm_Qi G w sz (fun r w' => r = X ∧ w' = w)) 0 0 (va_A w sz) := by
  refine mm_headI [.ref b] (by decide +kernel) rfl (Nat.le_of_ble_eq_true rfl) ?_
  intro p e s m args below meth c A Q hsz hC hM hret ls hl
  have hx := hC.1.1
  have hb := hC.1.2.1
  have hl : lv_has ls 1 [(0, .ref b)] := hl
  rw [f_X12_oddReeds] at hf
  refine lv_aload_n hx hb dX12_oddReeds_0 rfl (lv_at hl 0 rfl) ?_
  refine mm_get hC hM (k := 0) hp_this.1 rfl inAX12 (by decide) q2_16 rfl dX12_oddReeds_1 ?_
  refine mm_get hC hM (k := 0) (hp_this.2.1).1 rfl inAX6 (by decide) q1_140 rfl dX12_oddReeds_4 ?_
  obtain ⟨q7, hq7, hf⟩ := mm_bd hf
  refine mm_Vi (rest := []) hC hM (c_X9_oddByCells l hq7 ((hp_this.2.1).2.1)) q2_68 q1_3 ykX9_oddByCells q2_65 q2_66 q2_67 ((hp_this.2.1).2.1).1 rfl ⟨rfl, rfl⟩ ⟨Nat.le_of_ble_eq_true rfl, Nat.le_of_ble_eq_true rfl⟩ rfl hl.1 rfl (Nat.le_of_ble_eq_true rfl) dX12_oddReeds_7 ⟨Nat.le_of_ble_eq_true rfl, Nat.le_of_ble_eq_true rfl⟩ (fun r w7 H locs hM hw => ?_)
  obtain ⟨hr, hw⟩ := hw
  rw [hr]
  rw [hw] at hM
  cases hf
  exact hret hM dX12_oddReeds_10 rfl ⟨rfl, rfl⟩
def f_X12_oddReedsByRows (K : Nat) (marsh_reeds_states : Nat → Int32) : Option (Int32) := (f_X9_oddByRows K marsh_reeds_states).bind fun q7 => some q7
set_option maxHeartbeats 4000000 in
set_option maxRecDepth 100000 in
theorem c_X12_oddReedsByRows (l : Launch) {G : mm_G} {K : Nat} {w : va_W} {sz : Nat} {b : Nat} {marsh_reeds_states : Nat → Int32} {marsh_reeds_count : Int32} {marsh_reeds_broken : Int32} {marsh_fleet_numbers : Nat → Int32} {marsh_fleet_cells : Nat → Int32} {marsh_fleet_fares : Nat → Int32} {marsh_fleet_count : Int32} {marsh_fleet_nextNumber : Int32} {marsh_fleet_total : Int32} {marsh_fleet_removedFares : Int32} {marsh_fleet_meetings : Int32} {marsh_plans_moves : Nat → Int32} {marsh_plans_lengths : Nat → Int32} {marsh_landings_cells : Nat → Int32} {marsh_landings_count : Int32} {marsh_fogSide : Int32} {snapshot_reeds_states : Nat → Int32} {snapshot_reeds_count : Int32} {snapshot_reeds_broken : Int32} {snapshot_fleet_numbers : Nat → Int32} {snapshot_fleet_cells : Nat → Int32} {snapshot_fleet_fares : Nat → Int32} {snapshot_fleet_count : Int32} {snapshot_fleet_nextNumber : Int32} {snapshot_fleet_total : Int32} {snapshot_fleet_removedFares : Int32} {snapshot_fleet_meetings : Int32} {snapshot_plans_moves : Nat → Int32} {snapshot_plans_lengths : Nat → Int32} {snapshot_landings_cells : Nat → Int32} {snapshot_landings_count : Int32} {snapshot_fogSide : Int32} {history_slots : Nat → mm_MV} {history_free : Int32} {history_count : Int32} {ways_tolls : Nat → Int32} {ways_queue : Nat → Int32} {ways_heap : Nat → Int32} {ways_heapSize : Int32} {ways_found : Nat → Int32} {ways_improved : Nat → Int32} {pairing_costs : Nat → Int32} {pairing_best : Nat → Int32} {reader_kinds : Nat → Int32} {reader_starts : Nat → Int32} {reader_count : Int32} {commandText_signs : Nat → Int32} {commandText_length : Int32} {line_signs : Nat → Int32} {line_length : Int32} {spareMoves : Nat → Int32} {snapshotTaken : Int32} {lastErrorPosition : Int32} {lastFailedCommand : Int32} {X : Int32} (hf : f_X12_oddReedsByRows K marsh_reeds_states = some X) (hp_this : At12 G w b marsh_reeds_states marsh_reeds_count marsh_reeds_broken marsh_fleet_numbers marsh_fleet_cells marsh_fleet_fares marsh_fleet_count marsh_fleet_nextNumber marsh_fleet_total marsh_fleet_removedFares marsh_fleet_meetings marsh_plans_moves marsh_plans_lengths marsh_landings_cells marsh_landings_count marsh_fogSide snapshot_reeds_states snapshot_reeds_count snapshot_reeds_broken snapshot_fleet_numbers snapshot_fleet_cells snapshot_fleet_fares snapshot_fleet_count snapshot_fleet_nextNumber snapshot_fleet_total snapshot_fleet_removedFares snapshot_fleet_meetings snapshot_plans_moves snapshot_plans_lengths snapshot_landings_cells snapshot_landings_count snapshot_fogSide history_slots history_free history_count ways_tolls ways_queue ways_heap ways_heapSize ways_found ways_improved pairing_costs pairing_best reader_kinds reader_starts reader_count commandText_signs commandText_length line_signs line_length spareMoves snapshotTaken lastErrorPosition lastFailedCommand) : Met l yX12_oddReedsByRows (Cond.code yX12_oddReedsByRows cX12_oddReedsByRows 1 (some .int) :: gAll) ({ frames := 2, cells := 0, slots := 0, locals := 47 }) (va_Pc [.ref b] (mm_Pre G w sz)) (mm_Qi G w sz (fun r w' => r = X ∧ w' = w)) 0 0 (va_A w sz) := by
  refine mm_headI [.ref b] (by decide +kernel) rfl (Nat.le_of_ble_eq_true rfl) ?_
  intro p e s m args below meth c A Q hsz hC hM hret ls hl
  have hx := hC.1.1
  have hb := hC.1.2.1
  have hl : lv_has ls 1 [(0, .ref b)] := hl
  rw [f_X12_oddReedsByRows] at hf
  refine lv_aload_n hx hb dX12_oddReedsByRows_0 rfl (lv_at hl 0 rfl) ?_
  refine mm_get hC hM (k := 0) hp_this.1 rfl inAX12 (by decide) q2_16 rfl dX12_oddReedsByRows_1 ?_
  refine mm_get hC hM (k := 0) (hp_this.2.1).1 rfl inAX6 (by decide) q1_140 rfl dX12_oddReedsByRows_4 ?_
  obtain ⟨q7, hq7, hf⟩ := mm_bd hf
  refine mm_Vi (rest := []) hC hM (c_X9_oddByRows l hq7 ((hp_this.2.1).2.1)) q2_83 q1_3 ykX9_oddByRows q2_80 q2_81 q2_82 ((hp_this.2.1).2.1).1 rfl ⟨rfl, rfl⟩ ⟨Nat.le_of_ble_eq_true rfl, Nat.le_of_ble_eq_true rfl⟩ rfl hl.1 rfl (Nat.le_of_ble_eq_true rfl) dX12_oddReedsByRows_7 ⟨Nat.le_of_ble_eq_true rfl, Nat.le_of_ble_eq_true rfl⟩ (fun r w7 H locs hM hw => ?_)
  obtain ⟨hr, hw⟩ := hw
  rw [hr]
  rw [hw] at hM
  cases hf
  exact hret hM dX12_oddReedsByRows_10 rfl ⟨rfl, rfl⟩
def f_X12_setFog (marsh_reeds_states : Nat → Int32) (marsh_reeds_count : Int32) (marsh_reeds_broken : Int32) (marsh_fleet_numbers : Nat → Int32) (marsh_fleet_cells : Nat → Int32) (marsh_fleet_fares : Nat → Int32) (marsh_fleet_count : Int32) (marsh_fleet_nextNumber : Int32) (marsh_fleet_total : Int32) (marsh_fleet_removedFares : Int32) (marsh_fleet_meetings : Int32) (marsh_plans_moves : Nat → Int32) (marsh_plans_lengths : Nat → Int32) (marsh_landings_cells : Nat → Int32) (marsh_landings_count : Int32) (marsh_fogSide : Int32) (history_slots : Nat → mm_MV) (history_free : Int32) (history_count : Int32) (x1 : Int32) : Option (Nat × Int32 × Int32 × (Nat → mm_MV) × Int32 × Int32) := (f_X4_note history_slots history_free marsh_reeds_states marsh_reeds_count marsh_reeds_broken marsh_fleet_numbers marsh_fleet_cells marsh_fleet_fares marsh_fleet_count marsh_fleet_nextNumber marsh_fleet_total marsh_fleet_removedFares marsh_fleet_meetings marsh_plans_moves marsh_plans_lengths marsh_landings_cells marsh_landings_count marsh_fogSide).bind fun q8 => (f_X6_moveFog marsh_fogSide x1).bind fun q17 => (f_X12_settled history_free history_count q17.1).bind fun q20 => if q20.1 = 0 then some (0, q20.2.1, q17.2, q8, q20.2.2.1, q20.2.2.2) else some (q20.1, 0, q17.2, q8, q20.2.2.1, q20.2.2.2)
set_option maxHeartbeats 4000000 in
set_option maxRecDepth 100000 in
theorem c_X12_setFog (l : Launch) (hfl : l.stackTraces = false) {G : mm_G} {w : va_W} {sz : Nat} {b : Nat} {marsh_reeds_states : Nat → Int32} {marsh_reeds_count : Int32} {marsh_reeds_broken : Int32} {marsh_fleet_numbers : Nat → Int32} {marsh_fleet_cells : Nat → Int32} {marsh_fleet_fares : Nat → Int32} {marsh_fleet_count : Int32} {marsh_fleet_nextNumber : Int32} {marsh_fleet_total : Int32} {marsh_fleet_removedFares : Int32} {marsh_fleet_meetings : Int32} {marsh_plans_moves : Nat → Int32} {marsh_plans_lengths : Nat → Int32} {marsh_landings_cells : Nat → Int32} {marsh_landings_count : Int32} {marsh_fogSide : Int32} {snapshot_reeds_states : Nat → Int32} {snapshot_reeds_count : Int32} {snapshot_reeds_broken : Int32} {snapshot_fleet_numbers : Nat → Int32} {snapshot_fleet_cells : Nat → Int32} {snapshot_fleet_fares : Nat → Int32} {snapshot_fleet_count : Int32} {snapshot_fleet_nextNumber : Int32} {snapshot_fleet_total : Int32} {snapshot_fleet_removedFares : Int32} {snapshot_fleet_meetings : Int32} {snapshot_plans_moves : Nat → Int32} {snapshot_plans_lengths : Nat → Int32} {snapshot_landings_cells : Nat → Int32} {snapshot_landings_count : Int32} {snapshot_fogSide : Int32} {history_slots : Nat → mm_MV} {history_free : Int32} {history_count : Int32} {ways_tolls : Nat → Int32} {ways_queue : Nat → Int32} {ways_heap : Nat → Int32} {ways_heapSize : Int32} {ways_found : Nat → Int32} {ways_improved : Nat → Int32} {pairing_costs : Nat → Int32} {pairing_best : Nat → Int32} {reader_kinds : Nat → Int32} {reader_starts : Nat → Int32} {reader_count : Int32} {commandText_signs : Nat → Int32} {commandText_length : Int32} {line_signs : Nat → Int32} {line_length : Int32} {spareMoves : Nat → Int32} {snapshotTaken : Int32} {lastErrorPosition : Int32} {lastFailedCommand : Int32} {x1 : Int32} {X : Nat × Int32 × Int32 × (Nat → mm_MV) × Int32 × Int32} (hf : f_X12_setFog marsh_reeds_states marsh_reeds_count marsh_reeds_broken marsh_fleet_numbers marsh_fleet_cells marsh_fleet_fares marsh_fleet_count marsh_fleet_nextNumber marsh_fleet_total marsh_fleet_removedFares marsh_fleet_meetings marsh_plans_moves marsh_plans_lengths marsh_landings_cells marsh_landings_count marsh_fogSide history_slots history_free history_count x1 = some X) (hp_this : At12 G w b marsh_reeds_states marsh_reeds_count marsh_reeds_broken marsh_fleet_numbers marsh_fleet_cells marsh_fleet_fares marsh_fleet_count marsh_fleet_nextNumber marsh_fleet_total marsh_fleet_removedFares marsh_fleet_meetings marsh_plans_moves marsh_plans_lengths marsh_landings_cells marsh_landings_count marsh_fogSide snapshot_reeds_states snapshot_reeds_count snapshot_reeds_broken snapshot_fleet_numbers snapshot_fleet_cells snapshot_fleet_fares snapshot_fleet_count snapshot_fleet_nextNumber snapshot_fleet_total snapshot_fleet_removedFares snapshot_fleet_meetings snapshot_plans_moves snapshot_plans_lengths snapshot_landings_cells snapshot_landings_count snapshot_fogSide history_slots history_free history_count ways_tolls ways_queue ways_heap ways_heapSize ways_found ways_improved pairing_costs pairing_best reader_kinds reader_starts reader_count commandText_signs commandText_length line_signs line_length spareMoves snapshotTaken lastErrorPosition lastFailedCommand) : vx_Met l yX12_setFog (Cond.code yX12_setFog cX12_setFog 2 (some .int) :: gAll) ({ frames := 8, cells := 1, slots := 6, locals := 141 }) (va_Pc [.ref b, .int x1] (mm_Pre G w sz)) (mm_Qi G w sz (fun r w' => X.1 = 0 ∧ r = X.2.1 ∧ At12 G w' b marsh_reeds_states marsh_reeds_count marsh_reeds_broken marsh_fleet_numbers marsh_fleet_cells marsh_fleet_fares marsh_fleet_count marsh_fleet_nextNumber marsh_fleet_total marsh_fleet_removedFares marsh_fleet_meetings marsh_plans_moves marsh_plans_lengths marsh_landings_cells marsh_landings_count X.2.2.1 snapshot_reeds_states snapshot_reeds_count snapshot_reeds_broken snapshot_fleet_numbers snapshot_fleet_cells snapshot_fleet_fares snapshot_fleet_count snapshot_fleet_nextNumber snapshot_fleet_total snapshot_fleet_removedFares snapshot_fleet_meetings snapshot_plans_moves snapshot_plans_lengths snapshot_landings_cells snapshot_landings_count snapshot_fogSide X.2.2.2.1 X.2.2.2.2.1 X.2.2.2.2.2 ways_tolls ways_queue ways_heap ways_heapSize ways_found ways_improved pairing_costs pairing_best reader_kinds reader_starts reader_count commandText_signs commandText_length line_signs line_length spareMoves snapshotTaken lastErrorPosition lastFailedCommand ∧ mm_fr w w' b (b + 152))) (mm_QX G w sz (fun E w' => X.1 ≠ 0 ∧ E = mm_ex X.1 ∧ At12 G w' b marsh_reeds_states marsh_reeds_count marsh_reeds_broken marsh_fleet_numbers marsh_fleet_cells marsh_fleet_fares marsh_fleet_count marsh_fleet_nextNumber marsh_fleet_total marsh_fleet_removedFares marsh_fleet_meetings marsh_plans_moves marsh_plans_lengths marsh_landings_cells marsh_landings_count X.2.2.1 snapshot_reeds_states snapshot_reeds_count snapshot_reeds_broken snapshot_fleet_numbers snapshot_fleet_cells snapshot_fleet_fares snapshot_fleet_count snapshot_fleet_nextNumber snapshot_fleet_total snapshot_fleet_removedFares snapshot_fleet_meetings snapshot_plans_moves snapshot_plans_lengths snapshot_landings_cells snapshot_landings_count snapshot_fogSide X.2.2.2.1 X.2.2.2.2.1 X.2.2.2.2.2 ways_tolls ways_queue ways_heap ways_heapSize ways_found ways_improved pairing_costs pairing_best reader_kinds reader_starts reader_count commandText_signs commandText_length line_signs line_length spareMoves snapshotTaken lastErrorPosition lastFailedCommand ∧ mm_fr w w' b (b + 152))) 1 6 (va_A w sz) := by
  refine mm_xheadI hfl [.ref b, .int x1] (by decide +kernel) rfl (Nat.le_of_ble_eq_true rfl) rfl rfl ?_
  intro p e s m args below meth c A Q hsz hC hM hret hprop hthrow ls hl
  have hx := hC.1.1
  have hb := hC.1.2.1
  have hl : lv_has ls 2 [(0, .ref b), (1, .int x1)] := hl
  have hF : mm_fr w w b (b + 152) := mm_fr.rf
  rw [f_X12_setFog] at hf
  obtain ⟨hc_this, hp_this_marsh, hp_this_snapshot, hp_this_history, hp_this_ways, hp_this_pairing, hp_this_reader, hp_this_commandText, hp_this_line, hp_this_spareMoves⟩ := hp_this
  refine lv_aload_n hx hb dX12_setFog_0 rfl (lv_at hl 0 rfl) ?_
  refine mm_get hC hM (k := 2) hc_this rfl inAX12 (by decide) q2_18 rfl dX12_setFog_1 ?_
  refine lv_aload_n hx hb dX12_setFog_4 rfl (lv_at hl 0 rfl) ?_
  refine mm_get hC hM (k := 0) hc_this rfl inAX12 (by decide) q2_16 rfl dX12_setFog_5 ?_
  obtain ⟨q8, hq8, hf⟩ := mm_bd hf
  refine mm_Vv (rest := []) hC hM (c_X4_note l hq8 hp_this_history hp_this_marsh (by omega)) q3_178 q1_7 ykX4_note q3_175 q3_176 q3_177 hp_this_history.1 rfl ⟨rfl, rfl⟩ ⟨Nat.le_of_ble_eq_true rfl, Nat.le_of_ble_eq_true rfl⟩ rfl hl.1 rfl (Nat.le_of_ble_eq_true rfl) dX12_setFog_8 ⟨Nat.le_of_ble_eq_true rfl, Nat.le_of_ble_eq_true rfl⟩ (fun w8 H locs hM hw => ?_)
  obtain ⟨hn_this, hfr⟩ := hw
  have hc_this := hfr.keep hc_this (by omega)
  have hp_this_spareMoves := hfr.keep hp_this_spareMoves (by omega)
  have hp_this_marsh := hp_this_marsh.keep hfr (by omega)
  have hp_this_snapshot := hp_this_snapshot.keep hfr (by omega)
  have hp_this_ways := hp_this_ways.keep hfr (by omega)
  have hp_this_pairing := hp_this_pairing.keep hfr (by omega)
  have hp_this_reader := hp_this_reader.keep hfr (by omega)
  have hp_this_commandText := hp_this_commandText.keep hfr (by omega)
  have hp_this_line := hp_this_line.keep hfr (by omega)
  have hp_this_history := hn_this
  have hF := hF.tr (hfr.wide (by omega) (by omega))
  refine lv_aload_n hx hb dX12_setFog_11 rfl (lv_at hl 0 rfl) ?_
  refine lv_aload_n hx hb dX12_setFog_12 rfl (lv_at hl 0 rfl) ?_
  refine mm_get hC hM (k := 0) hc_this rfl inAX12 (by decide) q2_16 rfl dX12_setFog_13 ?_
  refine lv_iload_n hx hb dX12_setFog_16 rfl (lv_at hl 1 rfl) ?_
  obtain ⟨q17, hq17, hf⟩ := mm_bd hf
  refine mm_Vi (rest := [.ref b]) hC hM (c_X6_moveFog l hq17 hp_this_marsh) q4_109 q1_2 ykX6_moveFog q4_106 q4_107 q4_108 hp_this_marsh.1 rfl ⟨rfl, rfl⟩ ⟨Nat.le_of_ble_eq_true rfl, Nat.le_of_ble_eq_true rfl⟩ rfl hl.1 rfl (Nat.le_of_ble_eq_true rfl) dX12_setFog_17 ⟨Nat.le_of_ble_eq_true rfl, Nat.le_of_ble_eq_true rfl⟩ (fun r w17 H locs hM hw => ?_)
  obtain ⟨hr, hn_this, hfr⟩ := hw
  rw [hr]
  have hc_this := hfr.keep hc_this (by omega)
  have hp_this_spareMoves := hfr.keep hp_this_spareMoves (by omega)
  have hp_this_snapshot := hp_this_snapshot.keep hfr (by omega)
  have hp_this_history := hp_this_history.keep hfr (by omega)
  have hp_this_ways := hp_this_ways.keep hfr (by omega)
  have hp_this_pairing := hp_this_pairing.keep hfr (by omega)
  have hp_this_reader := hp_this_reader.keep hfr (by omega)
  have hp_this_commandText := hp_this_commandText.keep hfr (by omega)
  have hp_this_line := hp_this_line.keep hfr (by omega)
  have hp_this_marsh := hn_this
  have hF := hF.tr (hfr.wide (by omega) (by omega))
  obtain ⟨q20, hq20, hf⟩ := mm_bd hf
  refine mm_xVi (rest := []) hC hM (c_X12_settled l hfl hq20 ⟨hc_this, hp_this_marsh, hp_this_snapshot, hp_this_history, hp_this_ways, hp_this_pairing, hp_this_reader, hp_this_commandText, hp_this_line, hp_this_spareMoves⟩) q3_201 q1_1 ykX12_settled q3_198 q3_200 qp_bbc23764 hc_this rfl ⟨rfl, rfl⟩ ⟨Nat.le_of_ble_eq_true rfl, Nat.le_of_ble_eq_true rfl⟩ rfl hl.1 rfl (Nat.le_of_ble_eq_true rfl) dX12_setFog_20 ⟨Nat.le_of_ble_eq_true rfl, Nat.le_of_ble_eq_true rfl⟩ (fun E ce qE w20 H locs hM hw hqE hv9 hcl9 => ?_) (fun r w20 H locs hM hw => ?_)
  · obtain ⟨hne, hE, hn_this, hfr⟩ := hw
    rw [if_neg hne] at hf
    obtain ⟨hc_this, hp_this_marsh, hp_this_snapshot, hp_this_history, hp_this_ways, hp_this_pairing, hp_this_reader, hp_this_commandText, hp_this_line, hp_this_spareMoves⟩ := hn_this
    have hF := hF.tr (hfr.wide (by omega) (by omega))
    cases hf
    exact hprop hM hqE hv9 hcl9 ⟨hne, hE, ⟨hc_this, hp_this_marsh, hp_this_snapshot, hp_this_history, hp_this_ways, hp_this_pairing, hp_this_reader, hp_this_commandText, hp_this_line, hp_this_spareMoves⟩, hF⟩ (Nat.le_of_ble_eq_true rfl) (Nat.le_of_ble_eq_true rfl)
  obtain ⟨h0, hr, hn_this, hfr⟩ := hw
  rw [if_pos h0] at hf
  rw [hr]
  obtain ⟨hc_this, hp_this_marsh, hp_this_snapshot, hp_this_history, hp_this_ways, hp_this_pairing, hp_this_reader, hp_this_commandText, hp_this_line, hp_this_spareMoves⟩ := hn_this
  have hF := hF.tr (hfr.wide (by omega) (by omega))
  cases hf
  exact hret hM dX12_setFog_23 rfl ⟨rfl, rfl, ⟨hc_this, hp_this_marsh, hp_this_snapshot, hp_this_history, hp_this_ways, hp_this_pairing, hp_this_reader, hp_this_commandText, hp_this_line, hp_this_spareMoves⟩, hF⟩ (Nat.le_of_ble_eq_true rfl) (Nat.le_of_ble_eq_true rfl)
def f_X12_fog (marsh_fogSide : Int32) : Option (Int32) := some marsh_fogSide
set_option maxHeartbeats 4000000 in
set_option maxRecDepth 100000 in
theorem c_X12_fog (l : Launch) {G : mm_G} {w : va_W} {sz : Nat} {b : Nat} {marsh_reeds_states : Nat → Int32} {marsh_reeds_count : Int32} {marsh_reeds_broken : Int32} {marsh_fleet_numbers : Nat → Int32} {marsh_fleet_cells : Nat → Int32} {marsh_fleet_fares : Nat → Int32} {marsh_fleet_count : Int32} {marsh_fleet_nextNumber : Int32} {marsh_fleet_total : Int32} {marsh_fleet_removedFares : Int32} {marsh_fleet_meetings : Int32} {marsh_plans_moves : Nat → Int32} {marsh_plans_lengths : Nat → Int32} {marsh_landings_cells : Nat → Int32} {marsh_landings_count : Int32} {marsh_fogSide : Int32} {snapshot_reeds_states : Nat → Int32} {snapshot_reeds_count : Int32} {snapshot_reeds_broken : Int32} {snapshot_fleet_numbers : Nat → Int32} {snapshot_fleet_cells : Nat → Int32} {snapshot_fleet_fares : Nat → Int32} {snapshot_fleet_count : Int32} {snapshot_fleet_nextNumber : Int32} {snapshot_fleet_total : Int32} {snapshot_fleet_removedFares : Int32} {snapshot_fleet_meetings : Int32} {snapshot_plans_moves : Nat → Int32} {snapshot_plans_lengths : Nat → Int32} {snapshot_landings_cells : Nat → Int32} {snapshot_landings_count : Int32} {snapshot_fogSide : Int32} {history_slots : Nat → mm_MV} {history_free : Int32} {history_count : Int32} {ways_tolls : Nat → Int32} {ways_queue : Nat → Int32} {ways_heap : Nat → Int32} {ways_heapSize : Int32} {ways_found : Nat → Int32} {ways_improved : Nat → Int32} {pairing_costs : Nat → Int32} {pairing_best : Nat → Int32} {reader_kinds : Nat → Int32} {reader_starts : Nat → Int32} {reader_count : Int32} {commandText_signs : Nat → Int32} {commandText_length : Int32} {line_signs : Nat → Int32} {line_length : Int32} {spareMoves : Nat → Int32} {snapshotTaken : Int32} {lastErrorPosition : Int32} {lastFailedCommand : Int32} {X : Int32} (hf : f_X12_fog marsh_fogSide = some X) (hp_this : At12 G w b marsh_reeds_states marsh_reeds_count marsh_reeds_broken marsh_fleet_numbers marsh_fleet_cells marsh_fleet_fares marsh_fleet_count marsh_fleet_nextNumber marsh_fleet_total marsh_fleet_removedFares marsh_fleet_meetings marsh_plans_moves marsh_plans_lengths marsh_landings_cells marsh_landings_count marsh_fogSide snapshot_reeds_states snapshot_reeds_count snapshot_reeds_broken snapshot_fleet_numbers snapshot_fleet_cells snapshot_fleet_fares snapshot_fleet_count snapshot_fleet_nextNumber snapshot_fleet_total snapshot_fleet_removedFares snapshot_fleet_meetings snapshot_plans_moves snapshot_plans_lengths snapshot_landings_cells snapshot_landings_count snapshot_fogSide history_slots history_free history_count ways_tolls ways_queue ways_heap ways_heapSize ways_found ways_improved pairing_costs pairing_best reader_kinds reader_starts reader_count commandText_signs commandText_length line_signs line_length spareMoves snapshotTaken lastErrorPosition lastFailedCommand) : Met l yX12_fog (Cond.code yX12_fog cX12_fog 1 (some .int) :: gAll) ({ frames := 0, cells := 0, slots := 0, locals := 0 }) (va_Pc [.ref b] (mm_Pre G w sz)) (mm_Qi G w sz (fun r w' => r = X ∧ w' = w)) 0 0 (va_A w sz) := by
  refine mm_headI [.ref b] (by decide +kernel) rfl (Nat.le_of_ble_eq_true rfl) ?_
  intro p e s m args below meth c A Q hsz hC hM hret ls hl
  have hx := hC.1.1
  have hb := hC.1.2.1
  have hl : lv_has ls 1 [(0, .ref b)] := hl
  rw [f_X12_fog] at hf
  refine lv_aload_n hx hb dX12_fog_0 rfl (lv_at hl 0 rfl) ?_
  refine mm_get hC hM (k := 0) hp_this.1 rfl inAX12 (by decide) q2_16 rfl dX12_fog_1 ?_
  refine mm_get hC hM (k := 4) (hp_this.2.1).1 rfl inAX6 (by decide) q1_148 rfl dX12_fog_4 ?_
  cases hf
  exact hret hM dX12_fog_7 rfl ⟨rfl, rfl⟩
def f_X12_addBoat (K : Nat) (marsh_reeds_states : Nat → Int32) (marsh_reeds_count : Int32) (marsh_reeds_broken : Int32) (marsh_fleet_numbers : Nat → Int32) (marsh_fleet_cells : Nat → Int32) (marsh_fleet_fares : Nat → Int32) (marsh_fleet_count : Int32) (marsh_fleet_nextNumber : Int32) (marsh_fleet_total : Int32) (marsh_fleet_removedFares : Int32) (marsh_fleet_meetings : Int32) (marsh_plans_moves : Nat → Int32) (marsh_plans_lengths : Nat → Int32) (marsh_landings_cells : Nat → Int32) (marsh_landings_count : Int32) (marsh_fogSide : Int32) (history_slots : Nat → mm_MV) (history_free : Int32) (history_count : Int32) (x1 : Int32) (x2 : Int32) : Option (Nat × Int32 × (Nat → Int32) × (Nat → Int32) × (Nat → Int32) × Int32 × Int32 × (Nat → mm_MV) × Int32 × Int32) := (f_X4_note history_slots history_free marsh_reeds_states marsh_reeds_count marsh_reeds_broken marsh_fleet_numbers marsh_fleet_cells marsh_fleet_fares marsh_fleet_count marsh_fleet_nextNumber marsh_fleet_total marsh_fleet_removedFares marsh_fleet_meetings marsh_plans_moves marsh_plans_lengths marsh_landings_cells marsh_landings_count marsh_fogSide).bind fun q8 => (f_X6_launchBoat K marsh_reeds_states marsh_fleet_numbers marsh_fleet_cells marsh_fleet_fares marsh_fleet_count marsh_fleet_nextNumber x1 x2).bind fun q18 => (f_X12_settled history_free history_count q18.1).bind fun q21 => if q21.1 = 0 then some (0, q21.2.1, q18.2.1, q18.2.2.1, q18.2.2.2.1, q18.2.2.2.2.1, q18.2.2.2.2.2, q8, q21.2.2.1, q21.2.2.2) else some (q21.1, 0, q18.2.1, q18.2.2.1, q18.2.2.2.1, q18.2.2.2.2.1, q18.2.2.2.2.2, q8, q21.2.2.1, q21.2.2.2)
set_option maxHeartbeats 4000000 in
set_option maxRecDepth 100000 in
theorem c_X12_addBoat (l : Launch) (hfl : l.stackTraces = false) {G : mm_G} {K : Nat} {w : va_W} {sz : Nat} {b : Nat} {marsh_reeds_states : Nat → Int32} {marsh_reeds_count : Int32} {marsh_reeds_broken : Int32} {marsh_fleet_numbers : Nat → Int32} {marsh_fleet_cells : Nat → Int32} {marsh_fleet_fares : Nat → Int32} {marsh_fleet_count : Int32} {marsh_fleet_nextNumber : Int32} {marsh_fleet_total : Int32} {marsh_fleet_removedFares : Int32} {marsh_fleet_meetings : Int32} {marsh_plans_moves : Nat → Int32} {marsh_plans_lengths : Nat → Int32} {marsh_landings_cells : Nat → Int32} {marsh_landings_count : Int32} {marsh_fogSide : Int32} {snapshot_reeds_states : Nat → Int32} {snapshot_reeds_count : Int32} {snapshot_reeds_broken : Int32} {snapshot_fleet_numbers : Nat → Int32} {snapshot_fleet_cells : Nat → Int32} {snapshot_fleet_fares : Nat → Int32} {snapshot_fleet_count : Int32} {snapshot_fleet_nextNumber : Int32} {snapshot_fleet_total : Int32} {snapshot_fleet_removedFares : Int32} {snapshot_fleet_meetings : Int32} {snapshot_plans_moves : Nat → Int32} {snapshot_plans_lengths : Nat → Int32} {snapshot_landings_cells : Nat → Int32} {snapshot_landings_count : Int32} {snapshot_fogSide : Int32} {history_slots : Nat → mm_MV} {history_free : Int32} {history_count : Int32} {ways_tolls : Nat → Int32} {ways_queue : Nat → Int32} {ways_heap : Nat → Int32} {ways_heapSize : Int32} {ways_found : Nat → Int32} {ways_improved : Nat → Int32} {pairing_costs : Nat → Int32} {pairing_best : Nat → Int32} {reader_kinds : Nat → Int32} {reader_starts : Nat → Int32} {reader_count : Int32} {commandText_signs : Nat → Int32} {commandText_length : Int32} {line_signs : Nat → Int32} {line_length : Int32} {spareMoves : Nat → Int32} {snapshotTaken : Int32} {lastErrorPosition : Int32} {lastFailedCommand : Int32} {x1 : Int32} {x2 : Int32} {X : Nat × Int32 × (Nat → Int32) × (Nat → Int32) × (Nat → Int32) × Int32 × Int32 × (Nat → mm_MV) × Int32 × Int32} (hf : f_X12_addBoat K marsh_reeds_states marsh_reeds_count marsh_reeds_broken marsh_fleet_numbers marsh_fleet_cells marsh_fleet_fares marsh_fleet_count marsh_fleet_nextNumber marsh_fleet_total marsh_fleet_removedFares marsh_fleet_meetings marsh_plans_moves marsh_plans_lengths marsh_landings_cells marsh_landings_count marsh_fogSide history_slots history_free history_count x1 x2 = some X) (hp_this : At12 G w b marsh_reeds_states marsh_reeds_count marsh_reeds_broken marsh_fleet_numbers marsh_fleet_cells marsh_fleet_fares marsh_fleet_count marsh_fleet_nextNumber marsh_fleet_total marsh_fleet_removedFares marsh_fleet_meetings marsh_plans_moves marsh_plans_lengths marsh_landings_cells marsh_landings_count marsh_fogSide snapshot_reeds_states snapshot_reeds_count snapshot_reeds_broken snapshot_fleet_numbers snapshot_fleet_cells snapshot_fleet_fares snapshot_fleet_count snapshot_fleet_nextNumber snapshot_fleet_total snapshot_fleet_removedFares snapshot_fleet_meetings snapshot_plans_moves snapshot_plans_lengths snapshot_landings_cells snapshot_landings_count snapshot_fogSide history_slots history_free history_count ways_tolls ways_queue ways_heap ways_heapSize ways_found ways_improved pairing_costs pairing_best reader_kinds reader_starts reader_count commandText_signs commandText_length line_signs line_length spareMoves snapshotTaken lastErrorPosition lastFailedCommand) : vx_Met l yX12_addBoat (Cond.code yX12_addBoat cX12_addBoat 3 (some .int) :: gAll) ({ frames := 8, cells := 1, slots := 6, locals := 141 }) (va_Pc [.ref b, .int x1, .int x2] (mm_Pre G w sz)) (mm_Qi G w sz (fun r w' => X.1 = 0 ∧ r = X.2.1 ∧ At12 G w' b marsh_reeds_states marsh_reeds_count marsh_reeds_broken X.2.2.1 X.2.2.2.1 X.2.2.2.2.1 X.2.2.2.2.2.1 X.2.2.2.2.2.2.1 marsh_fleet_total marsh_fleet_removedFares marsh_fleet_meetings marsh_plans_moves marsh_plans_lengths marsh_landings_cells marsh_landings_count marsh_fogSide snapshot_reeds_states snapshot_reeds_count snapshot_reeds_broken snapshot_fleet_numbers snapshot_fleet_cells snapshot_fleet_fares snapshot_fleet_count snapshot_fleet_nextNumber snapshot_fleet_total snapshot_fleet_removedFares snapshot_fleet_meetings snapshot_plans_moves snapshot_plans_lengths snapshot_landings_cells snapshot_landings_count snapshot_fogSide X.2.2.2.2.2.2.2.1 X.2.2.2.2.2.2.2.2.1 X.2.2.2.2.2.2.2.2.2 ways_tolls ways_queue ways_heap ways_heapSize ways_found ways_improved pairing_costs pairing_best reader_kinds reader_starts reader_count commandText_signs commandText_length line_signs line_length spareMoves snapshotTaken lastErrorPosition lastFailedCommand ∧ mm_fr w w' b (b + 152))) (mm_QX G w sz (fun E w' => X.1 ≠ 0 ∧ E = mm_ex X.1 ∧ At12 G w' b marsh_reeds_states marsh_reeds_count marsh_reeds_broken X.2.2.1 X.2.2.2.1 X.2.2.2.2.1 X.2.2.2.2.2.1 X.2.2.2.2.2.2.1 marsh_fleet_total marsh_fleet_removedFares marsh_fleet_meetings marsh_plans_moves marsh_plans_lengths marsh_landings_cells marsh_landings_count marsh_fogSide snapshot_reeds_states snapshot_reeds_count snapshot_reeds_broken snapshot_fleet_numbers snapshot_fleet_cells snapshot_fleet_fares snapshot_fleet_count snapshot_fleet_nextNumber snapshot_fleet_total snapshot_fleet_removedFares snapshot_fleet_meetings snapshot_plans_moves snapshot_plans_lengths snapshot_landings_cells snapshot_landings_count snapshot_fogSide X.2.2.2.2.2.2.2.1 X.2.2.2.2.2.2.2.2.1 X.2.2.2.2.2.2.2.2.2 ways_tolls ways_queue ways_heap ways_heapSize ways_found ways_improved pairing_costs pairing_best reader_kinds reader_starts reader_count commandText_signs commandText_length line_signs line_length spareMoves snapshotTaken lastErrorPosition lastFailedCommand ∧ mm_fr w w' b (b + 152))) 1 6 (va_A w sz) := by
  refine mm_xheadI hfl [.ref b, .int x1, .int x2] (by decide +kernel) rfl (Nat.le_of_ble_eq_true rfl) rfl rfl ?_
  intro p e s m args below meth c A Q hsz hC hM hret hprop hthrow ls hl
  have hx := hC.1.1
  have hb := hC.1.2.1
  have hl : lv_has ls 3 [(0, .ref b), (1, .int x1), (2, .int x2)] := hl
  have hF : mm_fr w w b (b + 152) := mm_fr.rf
  rw [f_X12_addBoat] at hf
  obtain ⟨hc_this, hp_this_marsh, hp_this_snapshot, hp_this_history, hp_this_ways, hp_this_pairing, hp_this_reader, hp_this_commandText, hp_this_line, hp_this_spareMoves⟩ := hp_this
  refine lv_aload_n hx hb dX12_addBoat_0 rfl (lv_at hl 0 rfl) ?_
  refine mm_get hC hM (k := 2) hc_this rfl inAX12 (by decide) q2_18 rfl dX12_addBoat_1 ?_
  refine lv_aload_n hx hb dX12_addBoat_4 rfl (lv_at hl 0 rfl) ?_
  refine mm_get hC hM (k := 0) hc_this rfl inAX12 (by decide) q2_16 rfl dX12_addBoat_5 ?_
  obtain ⟨q8, hq8, hf⟩ := mm_bd hf
  refine mm_Vv (rest := []) hC hM (c_X4_note l hq8 hp_this_history hp_this_marsh (by omega)) q3_178 q1_7 ykX4_note q3_175 q3_176 q3_177 hp_this_history.1 rfl ⟨rfl, rfl⟩ ⟨Nat.le_of_ble_eq_true rfl, Nat.le_of_ble_eq_true rfl⟩ rfl hl.1 rfl (Nat.le_of_ble_eq_true rfl) dX12_addBoat_8 ⟨Nat.le_of_ble_eq_true rfl, Nat.le_of_ble_eq_true rfl⟩ (fun w8 H locs hM hw => ?_)
  obtain ⟨hn_this, hfr⟩ := hw
  have hc_this := hfr.keep hc_this (by omega)
  have hp_this_spareMoves := hfr.keep hp_this_spareMoves (by omega)
  have hp_this_marsh := hp_this_marsh.keep hfr (by omega)
  have hp_this_snapshot := hp_this_snapshot.keep hfr (by omega)
  have hp_this_ways := hp_this_ways.keep hfr (by omega)
  have hp_this_pairing := hp_this_pairing.keep hfr (by omega)
  have hp_this_reader := hp_this_reader.keep hfr (by omega)
  have hp_this_commandText := hp_this_commandText.keep hfr (by omega)
  have hp_this_line := hp_this_line.keep hfr (by omega)
  have hp_this_history := hn_this
  have hF := hF.tr (hfr.wide (by omega) (by omega))
  refine lv_aload_n hx hb dX12_addBoat_11 rfl (lv_at hl 0 rfl) ?_
  refine lv_aload_n hx hb dX12_addBoat_12 rfl (lv_at hl 0 rfl) ?_
  refine mm_get hC hM (k := 0) hc_this rfl inAX12 (by decide) q2_16 rfl dX12_addBoat_13 ?_
  refine lv_iload_n hx hb dX12_addBoat_16 rfl (lv_at hl 1 rfl) ?_
  refine lv_iload_n hx hb dX12_addBoat_17 rfl (lv_at hl 2 rfl) ?_
  obtain ⟨q18, hq18, hf⟩ := mm_bd hf
  refine mm_Vi (rest := [.ref b]) hC hM (c_X6_launchBoat l hq18 hp_this_marsh) q4_121 q1_2 ykX6_launchBoat q4_118 q4_119 q4_120 hp_this_marsh.1 rfl ⟨rfl, rfl⟩ ⟨Nat.le_of_ble_eq_true rfl, Nat.le_of_ble_eq_true rfl⟩ rfl hl.1 rfl (Nat.le_of_ble_eq_true rfl) dX12_addBoat_18 ⟨Nat.le_of_ble_eq_true rfl, Nat.le_of_ble_eq_true rfl⟩ (fun r w18 H locs hM hw => ?_)
  obtain ⟨hr, hn_this, hfr⟩ := hw
  rw [hr]
  have hc_this := hfr.keep hc_this (by omega)
  have hp_this_spareMoves := hfr.keep hp_this_spareMoves (by omega)
  have hp_this_snapshot := hp_this_snapshot.keep hfr (by omega)
  have hp_this_history := hp_this_history.keep hfr (by omega)
  have hp_this_ways := hp_this_ways.keep hfr (by omega)
  have hp_this_pairing := hp_this_pairing.keep hfr (by omega)
  have hp_this_reader := hp_this_reader.keep hfr (by omega)
  have hp_this_commandText := hp_this_commandText.keep hfr (by omega)
  have hp_this_line := hp_this_line.keep hfr (by omega)
  have hp_this_marsh := hn_this
  have hF := hF.tr (hfr.wide (by omega) (by omega))
  obtain ⟨q21, hq21, hf⟩ := mm_bd hf
  refine mm_xVi (rest := []) hC hM (c_X12_settled l hfl hq21 ⟨hc_this, hp_this_marsh, hp_this_snapshot, hp_this_history, hp_this_ways, hp_this_pairing, hp_this_reader, hp_this_commandText, hp_this_line, hp_this_spareMoves⟩) q3_201 q1_1 ykX12_settled q3_198 q3_200 qp_bbc23764 hc_this rfl ⟨rfl, rfl⟩ ⟨Nat.le_of_ble_eq_true rfl, Nat.le_of_ble_eq_true rfl⟩ rfl hl.1 rfl (Nat.le_of_ble_eq_true rfl) dX12_addBoat_21 ⟨Nat.le_of_ble_eq_true rfl, Nat.le_of_ble_eq_true rfl⟩ (fun E ce qE w21 H locs hM hw hqE hv9 hcl9 => ?_) (fun r w21 H locs hM hw => ?_)
  · obtain ⟨hne, hE, hn_this, hfr⟩ := hw
    rw [if_neg hne] at hf
    obtain ⟨hc_this, hp_this_marsh, hp_this_snapshot, hp_this_history, hp_this_ways, hp_this_pairing, hp_this_reader, hp_this_commandText, hp_this_line, hp_this_spareMoves⟩ := hn_this
    have hF := hF.tr (hfr.wide (by omega) (by omega))
    cases hf
    exact hprop hM hqE hv9 hcl9 ⟨hne, hE, ⟨hc_this, hp_this_marsh, hp_this_snapshot, hp_this_history, hp_this_ways, hp_this_pairing, hp_this_reader, hp_this_commandText, hp_this_line, hp_this_spareMoves⟩, hF⟩ (Nat.le_of_ble_eq_true rfl) (Nat.le_of_ble_eq_true rfl)
  obtain ⟨h0, hr, hn_this, hfr⟩ := hw
  rw [if_pos h0] at hf
  rw [hr]
  obtain ⟨hc_this, hp_this_marsh, hp_this_snapshot, hp_this_history, hp_this_ways, hp_this_pairing, hp_this_reader, hp_this_commandText, hp_this_line, hp_this_spareMoves⟩ := hn_this
  have hF := hF.tr (hfr.wide (by omega) (by omega))
  cases hf
  exact hret hM dX12_addBoat_24 rfl ⟨rfl, rfl, ⟨hc_this, hp_this_marsh, hp_this_snapshot, hp_this_history, hp_this_ways, hp_this_pairing, hp_this_reader, hp_this_commandText, hp_this_line, hp_this_spareMoves⟩, hF⟩ (Nat.le_of_ble_eq_true rfl) (Nat.le_of_ble_eq_true rfl)
def f_X12_removeBoat (K : Nat) (marsh_reeds_states : Nat → Int32) (marsh_reeds_count : Int32) (marsh_reeds_broken : Int32) (marsh_fleet_numbers : Nat → Int32) (marsh_fleet_cells : Nat → Int32) (marsh_fleet_fares : Nat → Int32) (marsh_fleet_count : Int32) (marsh_fleet_nextNumber : Int32) (marsh_fleet_total : Int32) (marsh_fleet_removedFares : Int32) (marsh_fleet_meetings : Int32) (marsh_plans_moves : Nat → Int32) (marsh_plans_lengths : Nat → Int32) (marsh_landings_cells : Nat → Int32) (marsh_landings_count : Int32) (marsh_fogSide : Int32) (history_slots : Nat → mm_MV) (history_free : Int32) (history_count : Int32) (x1 : Int32) : Option (Nat × Int32 × (Nat → Int32) × (Nat → Int32) × (Nat → Int32) × Int32 × Int32 × (Nat → mm_MV) × Int32 × Int32) := (f_X4_note history_slots history_free marsh_reeds_states marsh_reeds_count marsh_reeds_broken marsh_fleet_numbers marsh_fleet_cells marsh_fleet_fares marsh_fleet_count marsh_fleet_nextNumber marsh_fleet_total marsh_fleet_removedFares marsh_fleet_meetings marsh_plans_moves marsh_plans_lengths marsh_landings_cells marsh_landings_count marsh_fogSide).bind fun q8 => (f_X3_dismiss K marsh_fleet_numbers marsh_fleet_cells marsh_fleet_fares marsh_fleet_count marsh_fleet_removedFares x1).bind fun q20 => (f_X12_settled history_free history_count q20.1).bind fun q23 => if q23.1 = 0 then some (0, q23.2.1, q20.2.1, q20.2.2.1, q20.2.2.2.1, q20.2.2.2.2.1, q20.2.2.2.2.2, q8, q23.2.2.1, q23.2.2.2) else some (q23.1, 0, q20.2.1, q20.2.2.1, q20.2.2.2.1, q20.2.2.2.2.1, q20.2.2.2.2.2, q8, q23.2.2.1, q23.2.2.2)
set_option maxHeartbeats 4000000 in
set_option maxRecDepth 100000 in
theorem c_X12_removeBoat (l : Launch) (hfl : l.stackTraces = false) {G : mm_G} {K : Nat} {w : va_W} {sz : Nat} {b : Nat} {marsh_reeds_states : Nat → Int32} {marsh_reeds_count : Int32} {marsh_reeds_broken : Int32} {marsh_fleet_numbers : Nat → Int32} {marsh_fleet_cells : Nat → Int32} {marsh_fleet_fares : Nat → Int32} {marsh_fleet_count : Int32} {marsh_fleet_nextNumber : Int32} {marsh_fleet_total : Int32} {marsh_fleet_removedFares : Int32} {marsh_fleet_meetings : Int32} {marsh_plans_moves : Nat → Int32} {marsh_plans_lengths : Nat → Int32} {marsh_landings_cells : Nat → Int32} {marsh_landings_count : Int32} {marsh_fogSide : Int32} {snapshot_reeds_states : Nat → Int32} {snapshot_reeds_count : Int32} {snapshot_reeds_broken : Int32} {snapshot_fleet_numbers : Nat → Int32} {snapshot_fleet_cells : Nat → Int32} {snapshot_fleet_fares : Nat → Int32} {snapshot_fleet_count : Int32} {snapshot_fleet_nextNumber : Int32} {snapshot_fleet_total : Int32} {snapshot_fleet_removedFares : Int32} {snapshot_fleet_meetings : Int32} {snapshot_plans_moves : Nat → Int32} {snapshot_plans_lengths : Nat → Int32} {snapshot_landings_cells : Nat → Int32} {snapshot_landings_count : Int32} {snapshot_fogSide : Int32} {history_slots : Nat → mm_MV} {history_free : Int32} {history_count : Int32} {ways_tolls : Nat → Int32} {ways_queue : Nat → Int32} {ways_heap : Nat → Int32} {ways_heapSize : Int32} {ways_found : Nat → Int32} {ways_improved : Nat → Int32} {pairing_costs : Nat → Int32} {pairing_best : Nat → Int32} {reader_kinds : Nat → Int32} {reader_starts : Nat → Int32} {reader_count : Int32} {commandText_signs : Nat → Int32} {commandText_length : Int32} {line_signs : Nat → Int32} {line_length : Int32} {spareMoves : Nat → Int32} {snapshotTaken : Int32} {lastErrorPosition : Int32} {lastFailedCommand : Int32} {x1 : Int32} {X : Nat × Int32 × (Nat → Int32) × (Nat → Int32) × (Nat → Int32) × Int32 × Int32 × (Nat → mm_MV) × Int32 × Int32} (hf : f_X12_removeBoat K marsh_reeds_states marsh_reeds_count marsh_reeds_broken marsh_fleet_numbers marsh_fleet_cells marsh_fleet_fares marsh_fleet_count marsh_fleet_nextNumber marsh_fleet_total marsh_fleet_removedFares marsh_fleet_meetings marsh_plans_moves marsh_plans_lengths marsh_landings_cells marsh_landings_count marsh_fogSide history_slots history_free history_count x1 = some X) (hp_this : At12 G w b marsh_reeds_states marsh_reeds_count marsh_reeds_broken marsh_fleet_numbers marsh_fleet_cells marsh_fleet_fares marsh_fleet_count marsh_fleet_nextNumber marsh_fleet_total marsh_fleet_removedFares marsh_fleet_meetings marsh_plans_moves marsh_plans_lengths marsh_landings_cells marsh_landings_count marsh_fogSide snapshot_reeds_states snapshot_reeds_count snapshot_reeds_broken snapshot_fleet_numbers snapshot_fleet_cells snapshot_fleet_fares snapshot_fleet_count snapshot_fleet_nextNumber snapshot_fleet_total snapshot_fleet_removedFares snapshot_fleet_meetings snapshot_plans_moves snapshot_plans_lengths snapshot_landings_cells snapshot_landings_count snapshot_fogSide history_slots history_free history_count ways_tolls ways_queue ways_heap ways_heapSize ways_found ways_improved pairing_costs pairing_best reader_kinds reader_starts reader_count commandText_signs commandText_length line_signs line_length spareMoves snapshotTaken lastErrorPosition lastFailedCommand) : vx_Met l yX12_removeBoat (Cond.code yX12_removeBoat cX12_removeBoat 2 (some .int) :: gAll) ({ frames := 8, cells := 1, slots := 6, locals := 141 }) (va_Pc [.ref b, .int x1] (mm_Pre G w sz)) (mm_Qi G w sz (fun r w' => X.1 = 0 ∧ r = X.2.1 ∧ At12 G w' b marsh_reeds_states marsh_reeds_count marsh_reeds_broken X.2.2.1 X.2.2.2.1 X.2.2.2.2.1 X.2.2.2.2.2.1 marsh_fleet_nextNumber marsh_fleet_total X.2.2.2.2.2.2.1 marsh_fleet_meetings marsh_plans_moves marsh_plans_lengths marsh_landings_cells marsh_landings_count marsh_fogSide snapshot_reeds_states snapshot_reeds_count snapshot_reeds_broken snapshot_fleet_numbers snapshot_fleet_cells snapshot_fleet_fares snapshot_fleet_count snapshot_fleet_nextNumber snapshot_fleet_total snapshot_fleet_removedFares snapshot_fleet_meetings snapshot_plans_moves snapshot_plans_lengths snapshot_landings_cells snapshot_landings_count snapshot_fogSide X.2.2.2.2.2.2.2.1 X.2.2.2.2.2.2.2.2.1 X.2.2.2.2.2.2.2.2.2 ways_tolls ways_queue ways_heap ways_heapSize ways_found ways_improved pairing_costs pairing_best reader_kinds reader_starts reader_count commandText_signs commandText_length line_signs line_length spareMoves snapshotTaken lastErrorPosition lastFailedCommand ∧ mm_fr w w' b (b + 152))) (mm_QX G w sz (fun E w' => X.1 ≠ 0 ∧ E = mm_ex X.1 ∧ At12 G w' b marsh_reeds_states marsh_reeds_count marsh_reeds_broken X.2.2.1 X.2.2.2.1 X.2.2.2.2.1 X.2.2.2.2.2.1 marsh_fleet_nextNumber marsh_fleet_total X.2.2.2.2.2.2.1 marsh_fleet_meetings marsh_plans_moves marsh_plans_lengths marsh_landings_cells marsh_landings_count marsh_fogSide snapshot_reeds_states snapshot_reeds_count snapshot_reeds_broken snapshot_fleet_numbers snapshot_fleet_cells snapshot_fleet_fares snapshot_fleet_count snapshot_fleet_nextNumber snapshot_fleet_total snapshot_fleet_removedFares snapshot_fleet_meetings snapshot_plans_moves snapshot_plans_lengths snapshot_landings_cells snapshot_landings_count snapshot_fogSide X.2.2.2.2.2.2.2.1 X.2.2.2.2.2.2.2.2.1 X.2.2.2.2.2.2.2.2.2 ways_tolls ways_queue ways_heap ways_heapSize ways_found ways_improved pairing_costs pairing_best reader_kinds reader_starts reader_count commandText_signs commandText_length line_signs line_length spareMoves snapshotTaken lastErrorPosition lastFailedCommand ∧ mm_fr w w' b (b + 152))) 1 6 (va_A w sz) := by
  refine mm_xheadI hfl [.ref b, .int x1] (by decide +kernel) rfl (Nat.le_of_ble_eq_true rfl) rfl rfl ?_
  intro p e s m args below meth c A Q hsz hC hM hret hprop hthrow ls hl
  have hx := hC.1.1
  have hb := hC.1.2.1
  have hl : lv_has ls 2 [(0, .ref b), (1, .int x1)] := hl
  have hF : mm_fr w w b (b + 152) := mm_fr.rf
  rw [f_X12_removeBoat] at hf
  obtain ⟨hc_this, hp_this_marsh, hp_this_snapshot, hp_this_history, hp_this_ways, hp_this_pairing, hp_this_reader, hp_this_commandText, hp_this_line, hp_this_spareMoves⟩ := hp_this
  obtain ⟨hc_this_marsh, hp_this_marsh_reeds, hp_this_marsh_fleet, hp_this_marsh_plans, hp_this_marsh_landings⟩ := hp_this_marsh
  refine lv_aload_n hx hb dX12_removeBoat_0 rfl (lv_at hl 0 rfl) ?_
  refine mm_get hC hM (k := 2) hc_this rfl inAX12 (by decide) q2_18 rfl dX12_removeBoat_1 ?_
  refine lv_aload_n hx hb dX12_removeBoat_4 rfl (lv_at hl 0 rfl) ?_
  refine mm_get hC hM (k := 0) hc_this rfl inAX12 (by decide) q2_16 rfl dX12_removeBoat_5 ?_
  obtain ⟨q8, hq8, hf⟩ := mm_bd hf
  refine mm_Vv (rest := []) hC hM (c_X4_note l hq8 hp_this_history ⟨hc_this_marsh, hp_this_marsh_reeds, hp_this_marsh_fleet, hp_this_marsh_plans, hp_this_marsh_landings⟩ (by omega)) q3_178 q1_7 ykX4_note q3_175 q3_176 q3_177 hp_this_history.1 rfl ⟨rfl, rfl⟩ ⟨Nat.le_of_ble_eq_true rfl, Nat.le_of_ble_eq_true rfl⟩ rfl hl.1 rfl (Nat.le_of_ble_eq_true rfl) dX12_removeBoat_8 ⟨Nat.le_of_ble_eq_true rfl, Nat.le_of_ble_eq_true rfl⟩ (fun w8 H locs hM hw => ?_)
  obtain ⟨hn_this, hfr⟩ := hw
  have hc_this := hfr.keep hc_this (by omega)
  have hp_this_spareMoves := hfr.keep hp_this_spareMoves (by omega)
  have hc_this_marsh := hfr.keep hc_this_marsh (by omega)
  have hp_this_marsh_reeds := hp_this_marsh_reeds.keep hfr (by omega)
  have hp_this_marsh_fleet := hp_this_marsh_fleet.keep hfr (by omega)
  have hp_this_marsh_plans := hp_this_marsh_plans.keep hfr (by omega)
  have hp_this_marsh_landings := hp_this_marsh_landings.keep hfr (by omega)
  have hp_this_snapshot := hp_this_snapshot.keep hfr (by omega)
  have hp_this_ways := hp_this_ways.keep hfr (by omega)
  have hp_this_pairing := hp_this_pairing.keep hfr (by omega)
  have hp_this_reader := hp_this_reader.keep hfr (by omega)
  have hp_this_commandText := hp_this_commandText.keep hfr (by omega)
  have hp_this_line := hp_this_line.keep hfr (by omega)
  have hp_this_history := hn_this
  have hF := hF.tr (hfr.wide (by omega) (by omega))
  refine lv_aload_n hx hb dX12_removeBoat_11 rfl (lv_at hl 0 rfl) ?_
  refine lv_aload_n hx hb dX12_removeBoat_12 rfl (lv_at hl 0 rfl) ?_
  refine mm_get hC hM (k := 0) hc_this rfl inAX12 (by decide) q2_16 rfl dX12_removeBoat_13 ?_
  refine mm_get hC hM (k := 1) hc_this_marsh rfl inAX6 (by decide) q1_142 rfl dX12_removeBoat_16 ?_
  refine lv_iload_n hx hb dX12_removeBoat_19 rfl (lv_at hl 1 rfl) ?_
  obtain ⟨q20, hq20, hf⟩ := mm_bd hf
  refine mm_Vi (rest := [.ref b]) hC hM (c_X3_dismiss l hq20 hp_this_marsh_fleet) q4_137 q1_4 ykX3_dismiss q4_134 q4_135 q4_136 hp_this_marsh_fleet.1 rfl ⟨rfl, rfl⟩ ⟨Nat.le_of_ble_eq_true rfl, Nat.le_of_ble_eq_true rfl⟩ rfl hl.1 rfl (Nat.le_of_ble_eq_true rfl) dX12_removeBoat_20 ⟨Nat.le_of_ble_eq_true rfl, Nat.le_of_ble_eq_true rfl⟩ (fun r w20 H locs hM hw => ?_)
  obtain ⟨hr, hn_this, hfr⟩ := hw
  rw [hr]
  have hc_this := hfr.keep hc_this (by omega)
  have hp_this_spareMoves := hfr.keep hp_this_spareMoves (by omega)
  have hc_this_marsh := hfr.keep hc_this_marsh (by omega)
  have hp_this_marsh_reeds := hp_this_marsh_reeds.keep hfr (by omega)
  have hp_this_marsh_plans := hp_this_marsh_plans.keep hfr (by omega)
  have hp_this_marsh_landings := hp_this_marsh_landings.keep hfr (by omega)
  have hp_this_snapshot := hp_this_snapshot.keep hfr (by omega)
  have hp_this_history := hp_this_history.keep hfr (by omega)
  have hp_this_ways := hp_this_ways.keep hfr (by omega)
  have hp_this_pairing := hp_this_pairing.keep hfr (by omega)
  have hp_this_reader := hp_this_reader.keep hfr (by omega)
  have hp_this_commandText := hp_this_commandText.keep hfr (by omega)
  have hp_this_line := hp_this_line.keep hfr (by omega)
  have hp_this_marsh_fleet := hn_this
  have hF := hF.tr (hfr.wide (by omega) (by omega))
  obtain ⟨q23, hq23, hf⟩ := mm_bd hf
  refine mm_xVi (rest := []) hC hM (c_X12_settled l hfl hq23 ⟨hc_this, ⟨hc_this_marsh, hp_this_marsh_reeds, hp_this_marsh_fleet, hp_this_marsh_plans, hp_this_marsh_landings⟩, hp_this_snapshot, hp_this_history, hp_this_ways, hp_this_pairing, hp_this_reader, hp_this_commandText, hp_this_line, hp_this_spareMoves⟩) q3_201 q1_1 ykX12_settled q3_198 q3_200 qp_bbc23764 hc_this rfl ⟨rfl, rfl⟩ ⟨Nat.le_of_ble_eq_true rfl, Nat.le_of_ble_eq_true rfl⟩ rfl hl.1 rfl (Nat.le_of_ble_eq_true rfl) dX12_removeBoat_23 ⟨Nat.le_of_ble_eq_true rfl, Nat.le_of_ble_eq_true rfl⟩ (fun E ce qE w23 H locs hM hw hqE hv9 hcl9 => ?_) (fun r w23 H locs hM hw => ?_)
  · obtain ⟨hne, hE, hn_this, hfr⟩ := hw
    rw [if_neg hne] at hf
    obtain ⟨hc_this, hp_this_marsh, hp_this_snapshot, hp_this_history, hp_this_ways, hp_this_pairing, hp_this_reader, hp_this_commandText, hp_this_line, hp_this_spareMoves⟩ := hn_this
    obtain ⟨hc_this_marsh, hp_this_marsh_reeds, hp_this_marsh_fleet, hp_this_marsh_plans, hp_this_marsh_landings⟩ := hp_this_marsh
    have hF := hF.tr (hfr.wide (by omega) (by omega))
    cases hf
    exact hprop hM hqE hv9 hcl9 ⟨hne, hE, ⟨hc_this, ⟨hc_this_marsh, hp_this_marsh_reeds, hp_this_marsh_fleet, hp_this_marsh_plans, hp_this_marsh_landings⟩, hp_this_snapshot, hp_this_history, hp_this_ways, hp_this_pairing, hp_this_reader, hp_this_commandText, hp_this_line, hp_this_spareMoves⟩, hF⟩ (Nat.le_of_ble_eq_true rfl) (Nat.le_of_ble_eq_true rfl)
  obtain ⟨h0, hr, hn_this, hfr⟩ := hw
  rw [if_pos h0] at hf
  rw [hr]
  obtain ⟨hc_this, hp_this_marsh, hp_this_snapshot, hp_this_history, hp_this_ways, hp_this_pairing, hp_this_reader, hp_this_commandText, hp_this_line, hp_this_spareMoves⟩ := hn_this
  obtain ⟨hc_this_marsh, hp_this_marsh_reeds, hp_this_marsh_fleet, hp_this_marsh_plans, hp_this_marsh_landings⟩ := hp_this_marsh
  have hF := hF.tr (hfr.wide (by omega) (by omega))
  cases hf
  exact hret hM dX12_removeBoat_26 rfl ⟨rfl, rfl, ⟨hc_this, ⟨hc_this_marsh, hp_this_marsh_reeds, hp_this_marsh_fleet, hp_this_marsh_plans, hp_this_marsh_landings⟩, hp_this_snapshot, hp_this_history, hp_this_ways, hp_this_pairing, hp_this_reader, hp_this_commandText, hp_this_line, hp_this_spareMoves⟩, hF⟩ (Nat.le_of_ble_eq_true rfl) (Nat.le_of_ble_eq_true rfl)
def f_X12_boatCount (marsh_fleet_count : Int32) : Option (Int32) := some marsh_fleet_count
set_option maxHeartbeats 4000000 in
set_option maxRecDepth 100000 in
theorem c_X12_boatCount (l : Launch) {G : mm_G} {w : va_W} {sz : Nat} {b : Nat} {marsh_reeds_states : Nat → Int32} {marsh_reeds_count : Int32} {marsh_reeds_broken : Int32} {marsh_fleet_numbers : Nat → Int32} {marsh_fleet_cells : Nat → Int32} {marsh_fleet_fares : Nat → Int32} {marsh_fleet_count : Int32} {marsh_fleet_nextNumber : Int32} {marsh_fleet_total : Int32} {marsh_fleet_removedFares : Int32} {marsh_fleet_meetings : Int32} {marsh_plans_moves : Nat → Int32} {marsh_plans_lengths : Nat → Int32} {marsh_landings_cells : Nat → Int32} {marsh_landings_count : Int32} {marsh_fogSide : Int32} {snapshot_reeds_states : Nat → Int32} {snapshot_reeds_count : Int32} {snapshot_reeds_broken : Int32} {snapshot_fleet_numbers : Nat → Int32} {snapshot_fleet_cells : Nat → Int32} {snapshot_fleet_fares : Nat → Int32} {snapshot_fleet_count : Int32} {snapshot_fleet_nextNumber : Int32} {snapshot_fleet_total : Int32} {snapshot_fleet_removedFares : Int32} {snapshot_fleet_meetings : Int32} {snapshot_plans_moves : Nat → Int32} {snapshot_plans_lengths : Nat → Int32} {snapshot_landings_cells : Nat → Int32} {snapshot_landings_count : Int32} {snapshot_fogSide : Int32} {history_slots : Nat → mm_MV} {history_free : Int32} {history_count : Int32} {ways_tolls : Nat → Int32} {ways_queue : Nat → Int32} {ways_heap : Nat → Int32} {ways_heapSize : Int32} {ways_found : Nat → Int32} {ways_improved : Nat → Int32} {pairing_costs : Nat → Int32} {pairing_best : Nat → Int32} {reader_kinds : Nat → Int32} {reader_starts : Nat → Int32} {reader_count : Int32} {commandText_signs : Nat → Int32} {commandText_length : Int32} {line_signs : Nat → Int32} {line_length : Int32} {spareMoves : Nat → Int32} {snapshotTaken : Int32} {lastErrorPosition : Int32} {lastFailedCommand : Int32} {X : Int32} (hf : f_X12_boatCount marsh_fleet_count = some X) (hp_this : At12 G w b marsh_reeds_states marsh_reeds_count marsh_reeds_broken marsh_fleet_numbers marsh_fleet_cells marsh_fleet_fares marsh_fleet_count marsh_fleet_nextNumber marsh_fleet_total marsh_fleet_removedFares marsh_fleet_meetings marsh_plans_moves marsh_plans_lengths marsh_landings_cells marsh_landings_count marsh_fogSide snapshot_reeds_states snapshot_reeds_count snapshot_reeds_broken snapshot_fleet_numbers snapshot_fleet_cells snapshot_fleet_fares snapshot_fleet_count snapshot_fleet_nextNumber snapshot_fleet_total snapshot_fleet_removedFares snapshot_fleet_meetings snapshot_plans_moves snapshot_plans_lengths snapshot_landings_cells snapshot_landings_count snapshot_fogSide history_slots history_free history_count ways_tolls ways_queue ways_heap ways_heapSize ways_found ways_improved pairing_costs pairing_best reader_kinds reader_starts reader_count commandText_signs commandText_length line_signs line_length spareMoves snapshotTaken lastErrorPosition lastFailedCommand) : Met l yX12_boatCount (Cond.code yX12_boatCount cX12_boatCount 1 (some .int) :: gAll) ({ frames := 0, cells := 0, slots := 0, locals := 0 }) (va_Pc [.ref b] (mm_Pre G w sz)) (mm_Qi G w sz (fun r w' => r = X ∧ w' = w)) 0 0 (va_A w sz) := by
  refine mm_headI [.ref b] (by decide +kernel) rfl (Nat.le_of_ble_eq_true rfl) ?_
  intro p e s m args below meth c A Q hsz hC hM hret ls hl
  have hx := hC.1.1
  have hb := hC.1.2.1
  have hl : lv_has ls 1 [(0, .ref b)] := hl
  rw [f_X12_boatCount] at hf
  refine lv_aload_n hx hb dX12_boatCount_0 rfl (lv_at hl 0 rfl) ?_
  refine mm_get hC hM (k := 0) hp_this.1 rfl inAX12 (by decide) q2_16 rfl dX12_boatCount_1 ?_
  refine mm_get hC hM (k := 1) (hp_this.2.1).1 rfl inAX6 (by decide) q1_142 rfl dX12_boatCount_4 ?_
  refine mm_get hC hM (k := 3) ((hp_this.2.1).2.2.1).1 rfl inAX3 (by decide) q1_83 rfl dX12_boatCount_7 ?_
  cases hf
  exact hret hM dX12_boatCount_10 rfl ⟨rfl, rfl⟩
def f_X12_boatAt (marsh_fleet_numbers : Nat → Int32) (marsh_fleet_count : Int32) (x1 : Int32) : Option (Nat × Int32) := if x1 < 0 then some (1, 0) else if x1 < marsh_fleet_count then mm_g (mm_ck x1 4) (some (0, (marsh_fleet_numbers x1.toNatClampNeg))) else some (1, 0)
set_option maxHeartbeats 4000000 in
set_option maxRecDepth 100000 in
theorem c_X12_boatAt (l : Launch) (hfl : l.stackTraces = false) {G : mm_G} {w : va_W} {sz : Nat} {b : Nat} {marsh_reeds_states : Nat → Int32} {marsh_reeds_count : Int32} {marsh_reeds_broken : Int32} {marsh_fleet_numbers : Nat → Int32} {marsh_fleet_cells : Nat → Int32} {marsh_fleet_fares : Nat → Int32} {marsh_fleet_count : Int32} {marsh_fleet_nextNumber : Int32} {marsh_fleet_total : Int32} {marsh_fleet_removedFares : Int32} {marsh_fleet_meetings : Int32} {marsh_plans_moves : Nat → Int32} {marsh_plans_lengths : Nat → Int32} {marsh_landings_cells : Nat → Int32} {marsh_landings_count : Int32} {marsh_fogSide : Int32} {snapshot_reeds_states : Nat → Int32} {snapshot_reeds_count : Int32} {snapshot_reeds_broken : Int32} {snapshot_fleet_numbers : Nat → Int32} {snapshot_fleet_cells : Nat → Int32} {snapshot_fleet_fares : Nat → Int32} {snapshot_fleet_count : Int32} {snapshot_fleet_nextNumber : Int32} {snapshot_fleet_total : Int32} {snapshot_fleet_removedFares : Int32} {snapshot_fleet_meetings : Int32} {snapshot_plans_moves : Nat → Int32} {snapshot_plans_lengths : Nat → Int32} {snapshot_landings_cells : Nat → Int32} {snapshot_landings_count : Int32} {snapshot_fogSide : Int32} {history_slots : Nat → mm_MV} {history_free : Int32} {history_count : Int32} {ways_tolls : Nat → Int32} {ways_queue : Nat → Int32} {ways_heap : Nat → Int32} {ways_heapSize : Int32} {ways_found : Nat → Int32} {ways_improved : Nat → Int32} {pairing_costs : Nat → Int32} {pairing_best : Nat → Int32} {reader_kinds : Nat → Int32} {reader_starts : Nat → Int32} {reader_count : Int32} {commandText_signs : Nat → Int32} {commandText_length : Int32} {line_signs : Nat → Int32} {line_length : Int32} {spareMoves : Nat → Int32} {snapshotTaken : Int32} {lastErrorPosition : Int32} {lastFailedCommand : Int32} {x1 : Int32} {X : Nat × Int32} (hf : f_X12_boatAt marsh_fleet_numbers marsh_fleet_count x1 = some X) (hp_this : At12 G w b marsh_reeds_states marsh_reeds_count marsh_reeds_broken marsh_fleet_numbers marsh_fleet_cells marsh_fleet_fares marsh_fleet_count marsh_fleet_nextNumber marsh_fleet_total marsh_fleet_removedFares marsh_fleet_meetings marsh_plans_moves marsh_plans_lengths marsh_landings_cells marsh_landings_count marsh_fogSide snapshot_reeds_states snapshot_reeds_count snapshot_reeds_broken snapshot_fleet_numbers snapshot_fleet_cells snapshot_fleet_fares snapshot_fleet_count snapshot_fleet_nextNumber snapshot_fleet_total snapshot_fleet_removedFares snapshot_fleet_meetings snapshot_plans_moves snapshot_plans_lengths snapshot_landings_cells snapshot_landings_count snapshot_fogSide history_slots history_free history_count ways_tolls ways_queue ways_heap ways_heapSize ways_found ways_improved pairing_costs pairing_best reader_kinds reader_starts reader_count commandText_signs commandText_length line_signs line_length spareMoves snapshotTaken lastErrorPosition lastFailedCommand) : vx_Met l yX12_boatAt (Cond.code yX12_boatAt cX12_boatAt 2 (some .int) :: gAll) ({ frames := 7, cells := 1, slots := 6, locals := 120 }) (va_Pc [.ref b, .int x1] (mm_Pre G w sz)) (mm_Qi G w sz (fun r w' => X.1 = 0 ∧ r = X.2 ∧ w' = w)) (mm_QX G w sz (fun E w' => X.1 ≠ 0 ∧ E = mm_ex X.1 ∧ w' = w)) 1 6 (va_A w sz) := by
  refine mm_xheadI hfl [.ref b, .int x1] (by decide +kernel) rfl (Nat.le_of_ble_eq_true rfl) rfl rfl ?_
  intro p e s m args below meth c A Q hsz hC hM hret hprop hthrow ls hl
  have hx := hC.1.1
  have hb := hC.1.2.1
  have hl : lv_has ls 2 [(0, .ref b), (1, .int x1)] := hl
  rw [f_X12_boatAt] at hf
  refine lv_iload_n hx hb dX12_boatAt_0 rfl (lv_at hl 1 rfl) ?_
  refine lv_if_lt (tgt := 18) hx hb dX12_boatAt_1 (by decide) (fun hcd => ?_) (fun hcd => ?_)
  · rw [if_pos hcd] at hf
    cases hf
    exact hthrow (names := ["java/lang/RuntimeException", "java/lang/Exception"]) hM hl.1 (by decide +kernel) (by decide +kernel) q3_202 q1_16 vxa_1 vxb_1 dX12_boatAt_18 dX12_boatAt_21 dX12_boatAt_22 dX12_boatAt_25 (by decide) (Nat.le_of_ble_eq_true rfl) (Nat.le_of_ble_eq_true rfl) (Nat.le_of_ble_eq_true rfl) ⟨(by simp), rfl, rfl⟩
  · rw [if_neg hcd] at hf
    refine lv_iload_n hx hb dX12_boatAt_4 rfl (lv_at hl 1 rfl) ?_
    refine lv_aload_n hx hb dX12_boatAt_5 rfl (lv_at hl 0 rfl) ?_
    refine mm_get hC hM (k := 0) hp_this.1 rfl inAX12 (by decide) q2_16 rfl dX12_boatAt_6 ?_
    refine mm_get hC hM (k := 1) (hp_this.2.1).1 rfl inAX6 (by decide) q1_142 rfl dX12_boatAt_9 ?_
    refine mm_get hC hM (k := 3) ((hp_this.2.1).2.2.1).1 rfl inAX3 (by decide) q1_83 rfl dX12_boatAt_12 ?_
    refine lv_icmp_lt (tgt := 26) hx hb dX12_boatAt_15 (by decide) (fun hcd => ?_) (fun hcd => ?_)
    · rw [if_pos hcd] at hf
      refine lv_aload_n hx hb dX12_boatAt_26 rfl (lv_at hl 0 rfl) ?_
      refine mm_get hC hM (k := 0) hp_this.1 rfl inAX12 (by decide) q2_16 rfl dX12_boatAt_27 ?_
      refine mm_get hC hM (k := 1) (hp_this.2.1).1 rfl inAX6 (by decide) q1_142 rfl dX12_boatAt_30 ?_
      refine mm_get hC hM (k := 0) ((hp_this.2.1).2.2.1).1 rfl inAX3 (by decide) q1_75 rfl dX12_boatAt_33 ?_
      refine lv_iload_n hx hb dX12_boatAt_36 rfl (lv_at hl 1 rfl) ?_
      obtain ⟨hg37, hf⟩ := mm_gd hf
      refine mm_iald hC hM (((hp_this.2.1).2.2.1).2.1) hg37 dX12_boatAt_37 ?_
      cases hf
      exact hret hM dX12_boatAt_38 rfl ⟨rfl, rfl, rfl⟩ (Nat.le_of_ble_eq_true rfl) (Nat.le_of_ble_eq_true rfl)
    · rw [if_neg hcd] at hf
      cases hf
      exact hthrow (names := ["java/lang/RuntimeException", "java/lang/Exception"]) hM hl.1 (by decide +kernel) (by decide +kernel) q3_202 q1_16 vxa_1 vxb_1 dX12_boatAt_18 dX12_boatAt_21 dX12_boatAt_22 dX12_boatAt_25 (by decide) (Nat.le_of_ble_eq_true rfl) (Nat.le_of_ble_eq_true rfl) (Nat.le_of_ble_eq_true rfl) ⟨(by simp), rfl, rfl⟩
def f_X12_existingPlace (K : Nat) (marsh_fleet_numbers : Nat → Int32) (marsh_fleet_count : Int32) (x1 : Int32) : Option (Nat × Int32) := (f_X3_placeOf K marsh_fleet_numbers marsh_fleet_count x1).bind fun q8 => if q8 = (-1) then some (2, 0) else some (0, q8)
set_option maxHeartbeats 4000000 in
set_option maxRecDepth 100000 in
theorem c_X12_existingPlace (l : Launch) (hfl : l.stackTraces = false) {G : mm_G} {K : Nat} {w : va_W} {sz : Nat} {b : Nat} {marsh_reeds_states : Nat → Int32} {marsh_reeds_count : Int32} {marsh_reeds_broken : Int32} {marsh_fleet_numbers : Nat → Int32} {marsh_fleet_cells : Nat → Int32} {marsh_fleet_fares : Nat → Int32} {marsh_fleet_count : Int32} {marsh_fleet_nextNumber : Int32} {marsh_fleet_total : Int32} {marsh_fleet_removedFares : Int32} {marsh_fleet_meetings : Int32} {marsh_plans_moves : Nat → Int32} {marsh_plans_lengths : Nat → Int32} {marsh_landings_cells : Nat → Int32} {marsh_landings_count : Int32} {marsh_fogSide : Int32} {snapshot_reeds_states : Nat → Int32} {snapshot_reeds_count : Int32} {snapshot_reeds_broken : Int32} {snapshot_fleet_numbers : Nat → Int32} {snapshot_fleet_cells : Nat → Int32} {snapshot_fleet_fares : Nat → Int32} {snapshot_fleet_count : Int32} {snapshot_fleet_nextNumber : Int32} {snapshot_fleet_total : Int32} {snapshot_fleet_removedFares : Int32} {snapshot_fleet_meetings : Int32} {snapshot_plans_moves : Nat → Int32} {snapshot_plans_lengths : Nat → Int32} {snapshot_landings_cells : Nat → Int32} {snapshot_landings_count : Int32} {snapshot_fogSide : Int32} {history_slots : Nat → mm_MV} {history_free : Int32} {history_count : Int32} {ways_tolls : Nat → Int32} {ways_queue : Nat → Int32} {ways_heap : Nat → Int32} {ways_heapSize : Int32} {ways_found : Nat → Int32} {ways_improved : Nat → Int32} {pairing_costs : Nat → Int32} {pairing_best : Nat → Int32} {reader_kinds : Nat → Int32} {reader_starts : Nat → Int32} {reader_count : Int32} {commandText_signs : Nat → Int32} {commandText_length : Int32} {line_signs : Nat → Int32} {line_length : Int32} {spareMoves : Nat → Int32} {snapshotTaken : Int32} {lastErrorPosition : Int32} {lastFailedCommand : Int32} {x1 : Int32} {X : Nat × Int32} (hf : f_X12_existingPlace K marsh_fleet_numbers marsh_fleet_count x1 = some X) (hp_this : At12 G w b marsh_reeds_states marsh_reeds_count marsh_reeds_broken marsh_fleet_numbers marsh_fleet_cells marsh_fleet_fares marsh_fleet_count marsh_fleet_nextNumber marsh_fleet_total marsh_fleet_removedFares marsh_fleet_meetings marsh_plans_moves marsh_plans_lengths marsh_landings_cells marsh_landings_count marsh_fogSide snapshot_reeds_states snapshot_reeds_count snapshot_reeds_broken snapshot_fleet_numbers snapshot_fleet_cells snapshot_fleet_fares snapshot_fleet_count snapshot_fleet_nextNumber snapshot_fleet_total snapshot_fleet_removedFares snapshot_fleet_meetings snapshot_plans_moves snapshot_plans_lengths snapshot_landings_cells snapshot_landings_count snapshot_fogSide history_slots history_free history_count ways_tolls ways_queue ways_heap ways_heapSize ways_found ways_improved pairing_costs pairing_best reader_kinds reader_starts reader_count commandText_signs commandText_length line_signs line_length spareMoves snapshotTaken lastErrorPosition lastFailedCommand) : vx_Met l yX12_existingPlace (Cond.code yX12_existingPlace cX12_existingPlace 3 (some .int) :: gAll) ({ frames := 7, cells := 1, slots := 6, locals := 120 }) (va_Pc [.ref b, .int x1] (mm_Pre G w sz)) (mm_Qi G w sz (fun r w' => X.1 = 0 ∧ r = X.2 ∧ w' = w)) (mm_QX G w sz (fun E w' => X.1 ≠ 0 ∧ E = mm_ex X.1 ∧ w' = w)) 1 6 (va_A w sz) := by
  refine mm_xheadI hfl [.ref b, .int x1] (by decide +kernel) rfl (Nat.le_of_ble_eq_true rfl) rfl rfl ?_
  intro p e s m args below meth c A Q hsz hC hM hret hprop hthrow ls hl
  have hx := hC.1.1
  have hb := hC.1.2.1
  have hl : lv_has ls 3 [(0, .ref b), (1, .int x1)] := hl
  rw [f_X12_existingPlace] at hf
  refine lv_aload_n hx hb dX12_existingPlace_0 rfl (lv_at hl 0 rfl) ?_
  refine mm_get hC hM (k := 0) hp_this.1 rfl inAX12 (by decide) q2_16 rfl dX12_existingPlace_1 ?_
  refine mm_get hC hM (k := 1) (hp_this.2.1).1 rfl inAX6 (by decide) q1_142 rfl dX12_existingPlace_4 ?_
  refine lv_iload_n hx hb dX12_existingPlace_7 rfl (lv_at hl 1 rfl) ?_
  obtain ⟨q8, hq8, hf⟩ := mm_bd hf
  refine mm_Vi (rest := []) hC hM (c_X3_placeOf l hq8 ((hp_this.2.1).2.2.1)) q4_141 q1_4 ykX3_placeOf q4_160 q4_139 q4_140 ((hp_this.2.1).2.2.1).1 rfl ⟨rfl, rfl⟩ ⟨Nat.le_of_ble_eq_true rfl, Nat.le_of_ble_eq_true rfl⟩ rfl hl.1 rfl (Nat.le_of_ble_eq_true rfl) dX12_existingPlace_8 ⟨Nat.le_of_ble_eq_true rfl, Nat.le_of_ble_eq_true rfl⟩ (fun r w8 H locs hM hw => ?_)
  obtain ⟨hr, hw⟩ := hw
  rw [hr]
  rw [hw] at hM
  refine lv_istore_n (lv' := [(2, .int q8), (0, .ref b), (1, .int x1)]) hx hb dX12_existingPlace_11 rfl hl (by decide) rfl (fun ls hl => ?_)
  refine lv_iload_n hx hb dX12_existingPlace_12 rfl (lv_at hl 0 rfl) ?_
  refine lv_iconst (v := (-1)) hx hb dX12_existingPlace_13 (by decide) ?_
  refine lv_icmp_ne (tgt := 25) hx hb dX12_existingPlace_14 (by decide) (fun hcd => ?_) (fun hcd => ?_)
  · rw [if_neg hcd] at hf
    refine lv_iload_n hx hb dX12_existingPlace_25 rfl (lv_at hl 0 rfl) ?_
    cases hf
    exact hret hM dX12_existingPlace_26 rfl ⟨rfl, rfl, rfl⟩ (Nat.le_of_ble_eq_true rfl) (Nat.le_of_ble_eq_true rfl)
  · rw [if_pos hcd] at hf
    cases hf
    exact hthrow (names := ["java/lang/RuntimeException", "java/lang/Exception"]) hM hl.1 (by decide +kernel) (by decide +kernel) q3_223 q1_20 vxa_2 vxb_2 dX12_existingPlace_17 dX12_existingPlace_20 dX12_existingPlace_21 dX12_existingPlace_24 (by decide) (Nat.le_of_ble_eq_true rfl) (Nat.le_of_ble_eq_true rfl) (Nat.le_of_ble_eq_true rfl) ⟨(by simp), rfl, rfl⟩
def f_X12_columnOf (K : Nat) (marsh_fleet_numbers : Nat → Int32) (marsh_fleet_cells : Nat → Int32) (marsh_fleet_count : Int32) (x1 : Int32) : Option (Nat × Int32) := (f_X12_existingPlace K marsh_fleet_numbers marsh_fleet_count x1).bind fun q12 => if q12.1 = 0 then mm_g (mm_ck q12.2 4) ((f_X12_column (marsh_fleet_cells q12.2.toNatClampNeg)).bind fun q16 => some (0, q16)) else some (q12.1, 0)
set_option maxHeartbeats 4000000 in
set_option maxRecDepth 100000 in
theorem c_X12_columnOf (l : Launch) (hfl : l.stackTraces = false) {G : mm_G} {K : Nat} {w : va_W} {sz : Nat} {b : Nat} {marsh_reeds_states : Nat → Int32} {marsh_reeds_count : Int32} {marsh_reeds_broken : Int32} {marsh_fleet_numbers : Nat → Int32} {marsh_fleet_cells : Nat → Int32} {marsh_fleet_fares : Nat → Int32} {marsh_fleet_count : Int32} {marsh_fleet_nextNumber : Int32} {marsh_fleet_total : Int32} {marsh_fleet_removedFares : Int32} {marsh_fleet_meetings : Int32} {marsh_plans_moves : Nat → Int32} {marsh_plans_lengths : Nat → Int32} {marsh_landings_cells : Nat → Int32} {marsh_landings_count : Int32} {marsh_fogSide : Int32} {snapshot_reeds_states : Nat → Int32} {snapshot_reeds_count : Int32} {snapshot_reeds_broken : Int32} {snapshot_fleet_numbers : Nat → Int32} {snapshot_fleet_cells : Nat → Int32} {snapshot_fleet_fares : Nat → Int32} {snapshot_fleet_count : Int32} {snapshot_fleet_nextNumber : Int32} {snapshot_fleet_total : Int32} {snapshot_fleet_removedFares : Int32} {snapshot_fleet_meetings : Int32} {snapshot_plans_moves : Nat → Int32} {snapshot_plans_lengths : Nat → Int32} {snapshot_landings_cells : Nat → Int32} {snapshot_landings_count : Int32} {snapshot_fogSide : Int32} {history_slots : Nat → mm_MV} {history_free : Int32} {history_count : Int32} {ways_tolls : Nat → Int32} {ways_queue : Nat → Int32} {ways_heap : Nat → Int32} {ways_heapSize : Int32} {ways_found : Nat → Int32} {ways_improved : Nat → Int32} {pairing_costs : Nat → Int32} {pairing_best : Nat → Int32} {reader_kinds : Nat → Int32} {reader_starts : Nat → Int32} {reader_count : Int32} {commandText_signs : Nat → Int32} {commandText_length : Int32} {line_signs : Nat → Int32} {line_length : Int32} {spareMoves : Nat → Int32} {snapshotTaken : Int32} {lastErrorPosition : Int32} {lastFailedCommand : Int32} {x1 : Int32} {X : Nat × Int32} (hf : f_X12_columnOf K marsh_fleet_numbers marsh_fleet_cells marsh_fleet_count x1 = some X) (hp_this : At12 G w b marsh_reeds_states marsh_reeds_count marsh_reeds_broken marsh_fleet_numbers marsh_fleet_cells marsh_fleet_fares marsh_fleet_count marsh_fleet_nextNumber marsh_fleet_total marsh_fleet_removedFares marsh_fleet_meetings marsh_plans_moves marsh_plans_lengths marsh_landings_cells marsh_landings_count marsh_fogSide snapshot_reeds_states snapshot_reeds_count snapshot_reeds_broken snapshot_fleet_numbers snapshot_fleet_cells snapshot_fleet_fares snapshot_fleet_count snapshot_fleet_nextNumber snapshot_fleet_total snapshot_fleet_removedFares snapshot_fleet_meetings snapshot_plans_moves snapshot_plans_lengths snapshot_landings_cells snapshot_landings_count snapshot_fogSide history_slots history_free history_count ways_tolls ways_queue ways_heap ways_heapSize ways_found ways_improved pairing_costs pairing_best reader_kinds reader_starts reader_count commandText_signs commandText_length line_signs line_length spareMoves snapshotTaken lastErrorPosition lastFailedCommand) : vx_Met l yX12_columnOf (Cond.code yX12_columnOf cX12_columnOf 2 (some .int) :: gAll) ({ frames := 8, cells := 1, slots := 6, locals := 142 }) (va_Pc [.ref b, .int x1] (mm_Pre G w sz)) (mm_Qi G w sz (fun r w' => X.1 = 0 ∧ r = X.2 ∧ w' = w)) (mm_QX G w sz (fun E w' => X.1 ≠ 0 ∧ E = mm_ex X.1 ∧ w' = w)) 1 6 (va_A w sz) := by
  refine mm_xheadI hfl [.ref b, .int x1] (by decide +kernel) rfl (Nat.le_of_ble_eq_true rfl) rfl rfl ?_
  intro p e s m args below meth c A Q hsz hC hM hret hprop hthrow ls hl
  have hx := hC.1.1
  have hb := hC.1.2.1
  have hl : lv_has ls 2 [(0, .ref b), (1, .int x1)] := hl
  rw [f_X12_columnOf] at hf
  refine lv_aload_n hx hb dX12_columnOf_0 rfl (lv_at hl 0 rfl) ?_
  refine mm_get hC hM (k := 0) hp_this.1 rfl inAX12 (by decide) q2_16 rfl dX12_columnOf_1 ?_
  refine mm_get hC hM (k := 1) (hp_this.2.1).1 rfl inAX6 (by decide) q1_142 rfl dX12_columnOf_4 ?_
  refine mm_get hC hM (k := 1) ((hp_this.2.1).2.2.1).1 rfl inAX3 (by decide) q1_78 rfl dX12_columnOf_7 ?_
  refine lv_aload_n hx hb dX12_columnOf_10 rfl (lv_at hl 0 rfl) ?_
  refine lv_iload_n hx hb dX12_columnOf_11 rfl (lv_at hl 1 rfl) ?_
  obtain ⟨q12, hq12, hf⟩ := mm_bd hf
  refine mm_xVi (rest := [.ref (b + 1 + 3 + 2)]) hC hM (c_X12_existingPlace l hfl hq12 hp_this) q4_159 q1_1 ykX12_existingPlace q4_156 q4_158 qp_40dca9e3 hp_this.1 rfl ⟨rfl, rfl⟩ ⟨Nat.le_of_ble_eq_true rfl, Nat.le_of_ble_eq_true rfl⟩ rfl hl.1 rfl (Nat.le_of_ble_eq_true rfl) dX12_columnOf_12 ⟨Nat.le_of_ble_eq_true rfl, Nat.le_of_ble_eq_true rfl⟩ (fun E ce qE w12 H locs hM hw hqE hv9 hcl9 => ?_) (fun r w12 H locs hM hw => ?_)
  · obtain ⟨hne, hE, hw⟩ := hw
    rw [if_neg hne] at hf
    rw [hw] at hM
    cases hf
    exact hprop hM hqE hv9 hcl9 ⟨hne, hE, rfl⟩ (Nat.le_of_ble_eq_true rfl) (Nat.le_of_ble_eq_true rfl)
  obtain ⟨h0, hr, hw⟩ := hw
  rw [if_pos h0] at hf
  rw [hr]
  rw [hw] at hM
  obtain ⟨hg15, hf⟩ := mm_gd hf
  refine mm_iald hC hM (((hp_this.2.1).2.2.1).2.2.1) hg15 dX12_columnOf_15 ?_
  obtain ⟨q16, hq16, hf⟩ := mm_bd hf
  refine mm_Si (rest := []) hC hM (c_X12_column l hq16) q2_189 q1_1 ykX12_column q3_18 q2_188 ⟨rfl, rfl⟩ ⟨Nat.le_of_ble_eq_true rfl, Nat.le_of_ble_eq_true rfl⟩ rfl hl.1 rfl (Nat.le_of_ble_eq_true rfl) dX12_columnOf_16 ⟨Nat.le_of_ble_eq_true rfl, Nat.le_of_ble_eq_true rfl⟩ (fun r w16 H locs hM hw => ?_)
  obtain ⟨hr, hw⟩ := hw
  rw [hr]
  rw [hw] at hM
  cases hf
  exact hret hM dX12_columnOf_19 rfl ⟨rfl, rfl, rfl⟩ (Nat.le_of_ble_eq_true rfl) (Nat.le_of_ble_eq_true rfl)
def f_X12_rowOf (K : Nat) (marsh_fleet_numbers : Nat → Int32) (marsh_fleet_cells : Nat → Int32) (marsh_fleet_count : Int32) (x1 : Int32) : Option (Nat × Int32) := (f_X12_existingPlace K marsh_fleet_numbers marsh_fleet_count x1).bind fun q12 => if q12.1 = 0 then mm_g (mm_ck q12.2 4) ((f_X12_row (marsh_fleet_cells q12.2.toNatClampNeg)).bind fun q16 => some (0, q16)) else some (q12.1, 0)
set_option maxHeartbeats 4000000 in
set_option maxRecDepth 100000 in
theorem c_X12_rowOf (l : Launch) (hfl : l.stackTraces = false) {G : mm_G} {K : Nat} {w : va_W} {sz : Nat} {b : Nat} {marsh_reeds_states : Nat → Int32} {marsh_reeds_count : Int32} {marsh_reeds_broken : Int32} {marsh_fleet_numbers : Nat → Int32} {marsh_fleet_cells : Nat → Int32} {marsh_fleet_fares : Nat → Int32} {marsh_fleet_count : Int32} {marsh_fleet_nextNumber : Int32} {marsh_fleet_total : Int32} {marsh_fleet_removedFares : Int32} {marsh_fleet_meetings : Int32} {marsh_plans_moves : Nat → Int32} {marsh_plans_lengths : Nat → Int32} {marsh_landings_cells : Nat → Int32} {marsh_landings_count : Int32} {marsh_fogSide : Int32} {snapshot_reeds_states : Nat → Int32} {snapshot_reeds_count : Int32} {snapshot_reeds_broken : Int32} {snapshot_fleet_numbers : Nat → Int32} {snapshot_fleet_cells : Nat → Int32} {snapshot_fleet_fares : Nat → Int32} {snapshot_fleet_count : Int32} {snapshot_fleet_nextNumber : Int32} {snapshot_fleet_total : Int32} {snapshot_fleet_removedFares : Int32} {snapshot_fleet_meetings : Int32} {snapshot_plans_moves : Nat → Int32} {snapshot_plans_lengths : Nat → Int32} {snapshot_landings_cells : Nat → Int32} {snapshot_landings_count : Int32} {snapshot_fogSide : Int32} {history_slots : Nat → mm_MV} {history_free : Int32} {history_count : Int32} {ways_tolls : Nat → Int32} {ways_queue : Nat → Int32} {ways_heap : Nat → Int32} {ways_heapSize : Int32} {ways_found : Nat → Int32} {ways_improved : Nat → Int32} {pairing_costs : Nat → Int32} {pairing_best : Nat → Int32} {reader_kinds : Nat → Int32} {reader_starts : Nat → Int32} {reader_count : Int32} {commandText_signs : Nat → Int32} {commandText_length : Int32} {line_signs : Nat → Int32} {line_length : Int32} {spareMoves : Nat → Int32} {snapshotTaken : Int32} {lastErrorPosition : Int32} {lastFailedCommand : Int32} {x1 : Int32} {X : Nat × Int32} (hf : f_X12_rowOf K marsh_fleet_numbers marsh_fleet_cells marsh_fleet_count x1 = some X) (hp_this : At12 G w b marsh_reeds_states marsh_reeds_count marsh_reeds_broken marsh_fleet_numbers marsh_fleet_cells marsh_fleet_fares marsh_fleet_count marsh_fleet_nextNumber marsh_fleet_total marsh_fleet_removedFares marsh_fleet_meetings marsh_plans_moves marsh_plans_lengths marsh_landings_cells marsh_landings_count marsh_fogSide snapshot_reeds_states snapshot_reeds_count snapshot_reeds_broken snapshot_fleet_numbers snapshot_fleet_cells snapshot_fleet_fares snapshot_fleet_count snapshot_fleet_nextNumber snapshot_fleet_total snapshot_fleet_removedFares snapshot_fleet_meetings snapshot_plans_moves snapshot_plans_lengths snapshot_landings_cells snapshot_landings_count snapshot_fogSide history_slots history_free history_count ways_tolls ways_queue ways_heap ways_heapSize ways_found ways_improved pairing_costs pairing_best reader_kinds reader_starts reader_count commandText_signs commandText_length line_signs line_length spareMoves snapshotTaken lastErrorPosition lastFailedCommand) : vx_Met l yX12_rowOf (Cond.code yX12_rowOf cX12_rowOf 2 (some .int) :: gAll) ({ frames := 8, cells := 1, slots := 6, locals := 142 }) (va_Pc [.ref b, .int x1] (mm_Pre G w sz)) (mm_Qi G w sz (fun r w' => X.1 = 0 ∧ r = X.2 ∧ w' = w)) (mm_QX G w sz (fun E w' => X.1 ≠ 0 ∧ E = mm_ex X.1 ∧ w' = w)) 1 6 (va_A w sz) := by
  refine mm_xheadI hfl [.ref b, .int x1] (by decide +kernel) rfl (Nat.le_of_ble_eq_true rfl) rfl rfl ?_
  intro p e s m args below meth c A Q hsz hC hM hret hprop hthrow ls hl
  have hx := hC.1.1
  have hb := hC.1.2.1
  have hl : lv_has ls 2 [(0, .ref b), (1, .int x1)] := hl
  rw [f_X12_rowOf] at hf
  refine lv_aload_n hx hb dX12_rowOf_0 rfl (lv_at hl 0 rfl) ?_
  refine mm_get hC hM (k := 0) hp_this.1 rfl inAX12 (by decide) q2_16 rfl dX12_rowOf_1 ?_
  refine mm_get hC hM (k := 1) (hp_this.2.1).1 rfl inAX6 (by decide) q1_142 rfl dX12_rowOf_4 ?_
  refine mm_get hC hM (k := 1) ((hp_this.2.1).2.2.1).1 rfl inAX3 (by decide) q1_78 rfl dX12_rowOf_7 ?_
  refine lv_aload_n hx hb dX12_rowOf_10 rfl (lv_at hl 0 rfl) ?_
  refine lv_iload_n hx hb dX12_rowOf_11 rfl (lv_at hl 1 rfl) ?_
  obtain ⟨q12, hq12, hf⟩ := mm_bd hf
  refine mm_xVi (rest := [.ref (b + 1 + 3 + 2)]) hC hM (c_X12_existingPlace l hfl hq12 hp_this) q4_159 q1_1 ykX12_existingPlace q4_156 q4_158 qp_40dca9e3 hp_this.1 rfl ⟨rfl, rfl⟩ ⟨Nat.le_of_ble_eq_true rfl, Nat.le_of_ble_eq_true rfl⟩ rfl hl.1 rfl (Nat.le_of_ble_eq_true rfl) dX12_rowOf_12 ⟨Nat.le_of_ble_eq_true rfl, Nat.le_of_ble_eq_true rfl⟩ (fun E ce qE w12 H locs hM hw hqE hv9 hcl9 => ?_) (fun r w12 H locs hM hw => ?_)
  · obtain ⟨hne, hE, hw⟩ := hw
    rw [if_neg hne] at hf
    rw [hw] at hM
    cases hf
    exact hprop hM hqE hv9 hcl9 ⟨hne, hE, rfl⟩ (Nat.le_of_ble_eq_true rfl) (Nat.le_of_ble_eq_true rfl)
  obtain ⟨h0, hr, hw⟩ := hw
  rw [if_pos h0] at hf
  rw [hr]
  rw [hw] at hM
  obtain ⟨hg15, hf⟩ := mm_gd hf
  refine mm_iald hC hM (((hp_this.2.1).2.2.1).2.2.1) hg15 dX12_rowOf_15 ?_
  obtain ⟨q16, hq16, hf⟩ := mm_bd hf
  refine mm_Si (rest := []) hC hM (c_X12_row l hq16) q3_24 q1_1 ykX12_row q3_22 q3_23 ⟨rfl, rfl⟩ ⟨Nat.le_of_ble_eq_true rfl, Nat.le_of_ble_eq_true rfl⟩ rfl hl.1 rfl (Nat.le_of_ble_eq_true rfl) dX12_rowOf_16 ⟨Nat.le_of_ble_eq_true rfl, Nat.le_of_ble_eq_true rfl⟩ (fun r w16 H locs hM hw => ?_)
  obtain ⟨hr, hw⟩ := hw
  rw [hr]
  rw [hw] at hM
  cases hf
  exact hret hM dX12_rowOf_19 rfl ⟨rfl, rfl, rfl⟩ (Nat.le_of_ble_eq_true rfl) (Nat.le_of_ble_eq_true rfl)
def f_X12_imageColumnOf (K : Nat) (marsh_fleet_numbers : Nat → Int32) (marsh_fleet_cells : Nat → Int32) (marsh_fleet_count : Int32) (x1 : Int32) : Option (Nat × Int32) := (f_X12_existingPlace K marsh_fleet_numbers marsh_fleet_count x1).bind fun q12 => if q12.1 = 0 then mm_g (mm_ck q12.2 4) ((f_X12_image (marsh_fleet_cells q12.2.toNatClampNeg)).bind fun q16 => (f_X12_column q16).bind fun q19 => some (0, q19)) else some (q12.1, 0)
set_option maxHeartbeats 4000000 in
set_option maxRecDepth 100000 in
theorem c_X12_imageColumnOf (l : Launch) (hfl : l.stackTraces = false) {G : mm_G} {K : Nat} {w : va_W} {sz : Nat} {b : Nat} {marsh_reeds_states : Nat → Int32} {marsh_reeds_count : Int32} {marsh_reeds_broken : Int32} {marsh_fleet_numbers : Nat → Int32} {marsh_fleet_cells : Nat → Int32} {marsh_fleet_fares : Nat → Int32} {marsh_fleet_count : Int32} {marsh_fleet_nextNumber : Int32} {marsh_fleet_total : Int32} {marsh_fleet_removedFares : Int32} {marsh_fleet_meetings : Int32} {marsh_plans_moves : Nat → Int32} {marsh_plans_lengths : Nat → Int32} {marsh_landings_cells : Nat → Int32} {marsh_landings_count : Int32} {marsh_fogSide : Int32} {snapshot_reeds_states : Nat → Int32} {snapshot_reeds_count : Int32} {snapshot_reeds_broken : Int32} {snapshot_fleet_numbers : Nat → Int32} {snapshot_fleet_cells : Nat → Int32} {snapshot_fleet_fares : Nat → Int32} {snapshot_fleet_count : Int32} {snapshot_fleet_nextNumber : Int32} {snapshot_fleet_total : Int32} {snapshot_fleet_removedFares : Int32} {snapshot_fleet_meetings : Int32} {snapshot_plans_moves : Nat → Int32} {snapshot_plans_lengths : Nat → Int32} {snapshot_landings_cells : Nat → Int32} {snapshot_landings_count : Int32} {snapshot_fogSide : Int32} {history_slots : Nat → mm_MV} {history_free : Int32} {history_count : Int32} {ways_tolls : Nat → Int32} {ways_queue : Nat → Int32} {ways_heap : Nat → Int32} {ways_heapSize : Int32} {ways_found : Nat → Int32} {ways_improved : Nat → Int32} {pairing_costs : Nat → Int32} {pairing_best : Nat → Int32} {reader_kinds : Nat → Int32} {reader_starts : Nat → Int32} {reader_count : Int32} {commandText_signs : Nat → Int32} {commandText_length : Int32} {line_signs : Nat → Int32} {line_length : Int32} {spareMoves : Nat → Int32} {snapshotTaken : Int32} {lastErrorPosition : Int32} {lastFailedCommand : Int32} {x1 : Int32} {X : Nat × Int32} (hf : f_X12_imageColumnOf K marsh_fleet_numbers marsh_fleet_cells marsh_fleet_count x1 = some X) (hp_this : At12 G w b marsh_reeds_states marsh_reeds_count marsh_reeds_broken marsh_fleet_numbers marsh_fleet_cells marsh_fleet_fares marsh_fleet_count marsh_fleet_nextNumber marsh_fleet_total marsh_fleet_removedFares marsh_fleet_meetings marsh_plans_moves marsh_plans_lengths marsh_landings_cells marsh_landings_count marsh_fogSide snapshot_reeds_states snapshot_reeds_count snapshot_reeds_broken snapshot_fleet_numbers snapshot_fleet_cells snapshot_fleet_fares snapshot_fleet_count snapshot_fleet_nextNumber snapshot_fleet_total snapshot_fleet_removedFares snapshot_fleet_meetings snapshot_plans_moves snapshot_plans_lengths snapshot_landings_cells snapshot_landings_count snapshot_fogSide history_slots history_free history_count ways_tolls ways_queue ways_heap ways_heapSize ways_found ways_improved pairing_costs pairing_best reader_kinds reader_starts reader_count commandText_signs commandText_length line_signs line_length spareMoves snapshotTaken lastErrorPosition lastFailedCommand) : vx_Met l yX12_imageColumnOf (Cond.code yX12_imageColumnOf cX12_imageColumnOf 2 (some .int) :: gAll) ({ frames := 8, cells := 1, slots := 6, locals := 142 }) (va_Pc [.ref b, .int x1] (mm_Pre G w sz)) (mm_Qi G w sz (fun r w' => X.1 = 0 ∧ r = X.2 ∧ w' = w)) (mm_QX G w sz (fun E w' => X.1 ≠ 0 ∧ E = mm_ex X.1 ∧ w' = w)) 1 6 (va_A w sz) := by
  refine mm_xheadI hfl [.ref b, .int x1] (by decide +kernel) rfl (Nat.le_of_ble_eq_true rfl) rfl rfl ?_
  intro p e s m args below meth c A Q hsz hC hM hret hprop hthrow ls hl
  have hx := hC.1.1
  have hb := hC.1.2.1
  have hl : lv_has ls 2 [(0, .ref b), (1, .int x1)] := hl
  rw [f_X12_imageColumnOf] at hf
  refine lv_aload_n hx hb dX12_imageColumnOf_0 rfl (lv_at hl 0 rfl) ?_
  refine mm_get hC hM (k := 0) hp_this.1 rfl inAX12 (by decide) q2_16 rfl dX12_imageColumnOf_1 ?_
  refine mm_get hC hM (k := 1) (hp_this.2.1).1 rfl inAX6 (by decide) q1_142 rfl dX12_imageColumnOf_4 ?_
  refine mm_get hC hM (k := 1) ((hp_this.2.1).2.2.1).1 rfl inAX3 (by decide) q1_78 rfl dX12_imageColumnOf_7 ?_
  refine lv_aload_n hx hb dX12_imageColumnOf_10 rfl (lv_at hl 0 rfl) ?_
  refine lv_iload_n hx hb dX12_imageColumnOf_11 rfl (lv_at hl 1 rfl) ?_
  obtain ⟨q12, hq12, hf⟩ := mm_bd hf
  refine mm_xVi (rest := [.ref (b + 1 + 3 + 2)]) hC hM (c_X12_existingPlace l hfl hq12 hp_this) q4_159 q1_1 ykX12_existingPlace q4_156 q4_158 qp_40dca9e3 hp_this.1 rfl ⟨rfl, rfl⟩ ⟨Nat.le_of_ble_eq_true rfl, Nat.le_of_ble_eq_true rfl⟩ rfl hl.1 rfl (Nat.le_of_ble_eq_true rfl) dX12_imageColumnOf_12 ⟨Nat.le_of_ble_eq_true rfl, Nat.le_of_ble_eq_true rfl⟩ (fun E ce qE w12 H locs hM hw hqE hv9 hcl9 => ?_) (fun r w12 H locs hM hw => ?_)
  · obtain ⟨hne, hE, hw⟩ := hw
    rw [if_neg hne] at hf
    rw [hw] at hM
    cases hf
    exact hprop hM hqE hv9 hcl9 ⟨hne, hE, rfl⟩ (Nat.le_of_ble_eq_true rfl) (Nat.le_of_ble_eq_true rfl)
  obtain ⟨h0, hr, hw⟩ := hw
  rw [if_pos h0] at hf
  rw [hr]
  rw [hw] at hM
  obtain ⟨hg15, hf⟩ := mm_gd hf
  refine mm_iald hC hM (((hp_this.2.1).2.2.1).2.2.1) hg15 dX12_imageColumnOf_15 ?_
  obtain ⟨q16, hq16, hf⟩ := mm_bd hf
  refine mm_Si (rest := []) hC hM (c_X12_image l hq16) q2_75 q1_1 ykX12_image q4_175 q2_74 ⟨rfl, rfl⟩ ⟨Nat.le_of_ble_eq_true rfl, Nat.le_of_ble_eq_true rfl⟩ rfl hl.1 rfl (Nat.le_of_ble_eq_true rfl) dX12_imageColumnOf_16 ⟨Nat.le_of_ble_eq_true rfl, Nat.le_of_ble_eq_true rfl⟩ (fun r w16 H locs hM hw => ?_)
  obtain ⟨hr, hw⟩ := hw
  rw [hr]
  rw [hw] at hM
  obtain ⟨q19, hq19, hf⟩ := mm_bd hf
  refine mm_Si (rest := []) hC hM (c_X12_column l hq19) q2_189 q1_1 ykX12_column q3_18 q2_188 ⟨rfl, rfl⟩ ⟨Nat.le_of_ble_eq_true rfl, Nat.le_of_ble_eq_true rfl⟩ rfl hl.1 rfl (Nat.le_of_ble_eq_true rfl) dX12_imageColumnOf_19 ⟨Nat.le_of_ble_eq_true rfl, Nat.le_of_ble_eq_true rfl⟩ (fun r w19 H locs hM hw => ?_)
  obtain ⟨hr, hw⟩ := hw
  rw [hr]
  rw [hw] at hM
  cases hf
  exact hret hM dX12_imageColumnOf_22 rfl ⟨rfl, rfl, rfl⟩ (Nat.le_of_ble_eq_true rfl) (Nat.le_of_ble_eq_true rfl)
def f_X12_faresOf (K : Nat) (marsh_fleet_numbers : Nat → Int32) (marsh_fleet_fares : Nat → Int32) (marsh_fleet_count : Int32) (x1 : Int32) : Option (Nat × Int32) := (f_X12_existingPlace K marsh_fleet_numbers marsh_fleet_count x1).bind fun q12 => if q12.1 = 0 then mm_g (mm_ck q12.2 4) (some (0, (marsh_fleet_fares q12.2.toNatClampNeg))) else some (q12.1, 0)
set_option maxHeartbeats 4000000 in
set_option maxRecDepth 100000 in
theorem c_X12_faresOf (l : Launch) (hfl : l.stackTraces = false) {G : mm_G} {K : Nat} {w : va_W} {sz : Nat} {b : Nat} {marsh_reeds_states : Nat → Int32} {marsh_reeds_count : Int32} {marsh_reeds_broken : Int32} {marsh_fleet_numbers : Nat → Int32} {marsh_fleet_cells : Nat → Int32} {marsh_fleet_fares : Nat → Int32} {marsh_fleet_count : Int32} {marsh_fleet_nextNumber : Int32} {marsh_fleet_total : Int32} {marsh_fleet_removedFares : Int32} {marsh_fleet_meetings : Int32} {marsh_plans_moves : Nat → Int32} {marsh_plans_lengths : Nat → Int32} {marsh_landings_cells : Nat → Int32} {marsh_landings_count : Int32} {marsh_fogSide : Int32} {snapshot_reeds_states : Nat → Int32} {snapshot_reeds_count : Int32} {snapshot_reeds_broken : Int32} {snapshot_fleet_numbers : Nat → Int32} {snapshot_fleet_cells : Nat → Int32} {snapshot_fleet_fares : Nat → Int32} {snapshot_fleet_count : Int32} {snapshot_fleet_nextNumber : Int32} {snapshot_fleet_total : Int32} {snapshot_fleet_removedFares : Int32} {snapshot_fleet_meetings : Int32} {snapshot_plans_moves : Nat → Int32} {snapshot_plans_lengths : Nat → Int32} {snapshot_landings_cells : Nat → Int32} {snapshot_landings_count : Int32} {snapshot_fogSide : Int32} {history_slots : Nat → mm_MV} {history_free : Int32} {history_count : Int32} {ways_tolls : Nat → Int32} {ways_queue : Nat → Int32} {ways_heap : Nat → Int32} {ways_heapSize : Int32} {ways_found : Nat → Int32} {ways_improved : Nat → Int32} {pairing_costs : Nat → Int32} {pairing_best : Nat → Int32} {reader_kinds : Nat → Int32} {reader_starts : Nat → Int32} {reader_count : Int32} {commandText_signs : Nat → Int32} {commandText_length : Int32} {line_signs : Nat → Int32} {line_length : Int32} {spareMoves : Nat → Int32} {snapshotTaken : Int32} {lastErrorPosition : Int32} {lastFailedCommand : Int32} {x1 : Int32} {X : Nat × Int32} (hf : f_X12_faresOf K marsh_fleet_numbers marsh_fleet_fares marsh_fleet_count x1 = some X) (hp_this : At12 G w b marsh_reeds_states marsh_reeds_count marsh_reeds_broken marsh_fleet_numbers marsh_fleet_cells marsh_fleet_fares marsh_fleet_count marsh_fleet_nextNumber marsh_fleet_total marsh_fleet_removedFares marsh_fleet_meetings marsh_plans_moves marsh_plans_lengths marsh_landings_cells marsh_landings_count marsh_fogSide snapshot_reeds_states snapshot_reeds_count snapshot_reeds_broken snapshot_fleet_numbers snapshot_fleet_cells snapshot_fleet_fares snapshot_fleet_count snapshot_fleet_nextNumber snapshot_fleet_total snapshot_fleet_removedFares snapshot_fleet_meetings snapshot_plans_moves snapshot_plans_lengths snapshot_landings_cells snapshot_landings_count snapshot_fogSide history_slots history_free history_count ways_tolls ways_queue ways_heap ways_heapSize ways_found ways_improved pairing_costs pairing_best reader_kinds reader_starts reader_count commandText_signs commandText_length line_signs line_length spareMoves snapshotTaken lastErrorPosition lastFailedCommand) : vx_Met l yX12_faresOf (Cond.code yX12_faresOf cX12_faresOf 2 (some .int) :: gAll) ({ frames := 8, cells := 1, slots := 6, locals := 142 }) (va_Pc [.ref b, .int x1] (mm_Pre G w sz)) (mm_Qi G w sz (fun r w' => X.1 = 0 ∧ r = X.2 ∧ w' = w)) (mm_QX G w sz (fun E w' => X.1 ≠ 0 ∧ E = mm_ex X.1 ∧ w' = w)) 1 6 (va_A w sz) := by
  refine mm_xheadI hfl [.ref b, .int x1] (by decide +kernel) rfl (Nat.le_of_ble_eq_true rfl) rfl rfl ?_
  intro p e s m args below meth c A Q hsz hC hM hret hprop hthrow ls hl
  have hx := hC.1.1
  have hb := hC.1.2.1
  have hl : lv_has ls 2 [(0, .ref b), (1, .int x1)] := hl
  rw [f_X12_faresOf] at hf
  refine lv_aload_n hx hb dX12_faresOf_0 rfl (lv_at hl 0 rfl) ?_
  refine mm_get hC hM (k := 0) hp_this.1 rfl inAX12 (by decide) q2_16 rfl dX12_faresOf_1 ?_
  refine mm_get hC hM (k := 1) (hp_this.2.1).1 rfl inAX6 (by decide) q1_142 rfl dX12_faresOf_4 ?_
  refine mm_get hC hM (k := 2) ((hp_this.2.1).2.2.1).1 rfl inAX3 (by decide) q1_80 rfl dX12_faresOf_7 ?_
  refine lv_aload_n hx hb dX12_faresOf_10 rfl (lv_at hl 0 rfl) ?_
  refine lv_iload_n hx hb dX12_faresOf_11 rfl (lv_at hl 1 rfl) ?_
  obtain ⟨q12, hq12, hf⟩ := mm_bd hf
  refine mm_xVi (rest := [.ref (b + 1 + 3 + 3)]) hC hM (c_X12_existingPlace l hfl hq12 hp_this) q4_159 q1_1 ykX12_existingPlace q4_156 q4_158 qp_40dca9e3 hp_this.1 rfl ⟨rfl, rfl⟩ ⟨Nat.le_of_ble_eq_true rfl, Nat.le_of_ble_eq_true rfl⟩ rfl hl.1 rfl (Nat.le_of_ble_eq_true rfl) dX12_faresOf_12 ⟨Nat.le_of_ble_eq_true rfl, Nat.le_of_ble_eq_true rfl⟩ (fun E ce qE w12 H locs hM hw hqE hv9 hcl9 => ?_) (fun r w12 H locs hM hw => ?_)
  · obtain ⟨hne, hE, hw⟩ := hw
    rw [if_neg hne] at hf
    rw [hw] at hM
    cases hf
    exact hprop hM hqE hv9 hcl9 ⟨hne, hE, rfl⟩ (Nat.le_of_ble_eq_true rfl) (Nat.le_of_ble_eq_true rfl)
  obtain ⟨h0, hr, hw⟩ := hw
  rw [if_pos h0] at hf
  rw [hr]
  rw [hw] at hM
  obtain ⟨hg15, hf⟩ := mm_gd hf
  refine mm_iald hC hM (((hp_this.2.1).2.2.1).2.2.2) hg15 dX12_faresOf_15 ?_
  cases hf
  exact hret hM dX12_faresOf_16 rfl ⟨rfl, rfl, rfl⟩ (Nat.le_of_ble_eq_true rfl) (Nat.le_of_ble_eq_true rfl)
def f_X12_boatAtRank (K : Nat) (marsh_fleet_numbers : Nat → Int32) (marsh_fleet_fares : Nat → Int32) (marsh_fleet_count : Int32) (x1 : Int32) : Option (Nat × Int32) := (f_X3_placeOfRank K marsh_fleet_fares marsh_fleet_count x1).bind fun q8 => if q8 = (-1) then some (2, 0) else mm_g (mm_ck q8 4) (some (0, (marsh_fleet_numbers q8.toNatClampNeg)))
set_option maxHeartbeats 4000000 in
set_option maxRecDepth 100000 in
theorem c_X12_boatAtRank (l : Launch) (hfl : l.stackTraces = false) {G : mm_G} {K : Nat} {w : va_W} {sz : Nat} {b : Nat} {marsh_reeds_states : Nat → Int32} {marsh_reeds_count : Int32} {marsh_reeds_broken : Int32} {marsh_fleet_numbers : Nat → Int32} {marsh_fleet_cells : Nat → Int32} {marsh_fleet_fares : Nat → Int32} {marsh_fleet_count : Int32} {marsh_fleet_nextNumber : Int32} {marsh_fleet_total : Int32} {marsh_fleet_removedFares : Int32} {marsh_fleet_meetings : Int32} {marsh_plans_moves : Nat → Int32} {marsh_plans_lengths : Nat → Int32} {marsh_landings_cells : Nat → Int32} {marsh_landings_count : Int32} {marsh_fogSide : Int32} {snapshot_reeds_states : Nat → Int32} {snapshot_reeds_count : Int32} {snapshot_reeds_broken : Int32} {snapshot_fleet_numbers : Nat → Int32} {snapshot_fleet_cells : Nat → Int32} {snapshot_fleet_fares : Nat → Int32} {snapshot_fleet_count : Int32} {snapshot_fleet_nextNumber : Int32} {snapshot_fleet_total : Int32} {snapshot_fleet_removedFares : Int32} {snapshot_fleet_meetings : Int32} {snapshot_plans_moves : Nat → Int32} {snapshot_plans_lengths : Nat → Int32} {snapshot_landings_cells : Nat → Int32} {snapshot_landings_count : Int32} {snapshot_fogSide : Int32} {history_slots : Nat → mm_MV} {history_free : Int32} {history_count : Int32} {ways_tolls : Nat → Int32} {ways_queue : Nat → Int32} {ways_heap : Nat → Int32} {ways_heapSize : Int32} {ways_found : Nat → Int32} {ways_improved : Nat → Int32} {pairing_costs : Nat → Int32} {pairing_best : Nat → Int32} {reader_kinds : Nat → Int32} {reader_starts : Nat → Int32} {reader_count : Int32} {commandText_signs : Nat → Int32} {commandText_length : Int32} {line_signs : Nat → Int32} {line_length : Int32} {spareMoves : Nat → Int32} {snapshotTaken : Int32} {lastErrorPosition : Int32} {lastFailedCommand : Int32} {x1 : Int32} {X : Nat × Int32} (hf : f_X12_boatAtRank K marsh_fleet_numbers marsh_fleet_fares marsh_fleet_count x1 = some X) (hp_this : At12 G w b marsh_reeds_states marsh_reeds_count marsh_reeds_broken marsh_fleet_numbers marsh_fleet_cells marsh_fleet_fares marsh_fleet_count marsh_fleet_nextNumber marsh_fleet_total marsh_fleet_removedFares marsh_fleet_meetings marsh_plans_moves marsh_plans_lengths marsh_landings_cells marsh_landings_count marsh_fogSide snapshot_reeds_states snapshot_reeds_count snapshot_reeds_broken snapshot_fleet_numbers snapshot_fleet_cells snapshot_fleet_fares snapshot_fleet_count snapshot_fleet_nextNumber snapshot_fleet_total snapshot_fleet_removedFares snapshot_fleet_meetings snapshot_plans_moves snapshot_plans_lengths snapshot_landings_cells snapshot_landings_count snapshot_fogSide history_slots history_free history_count ways_tolls ways_queue ways_heap ways_heapSize ways_found ways_improved pairing_costs pairing_best reader_kinds reader_starts reader_count commandText_signs commandText_length line_signs line_length spareMoves snapshotTaken lastErrorPosition lastFailedCommand) : vx_Met l yX12_boatAtRank (Cond.code yX12_boatAtRank cX12_boatAtRank 3 (some .int) :: gAll) ({ frames := 7, cells := 1, slots := 6, locals := 120 }) (va_Pc [.ref b, .int x1] (mm_Pre G w sz)) (mm_Qi G w sz (fun r w' => X.1 = 0 ∧ r = X.2 ∧ w' = w)) (mm_QX G w sz (fun E w' => X.1 ≠ 0 ∧ E = mm_ex X.1 ∧ w' = w)) 1 6 (va_A w sz) := by
  refine mm_xheadI hfl [.ref b, .int x1] (by decide +kernel) rfl (Nat.le_of_ble_eq_true rfl) rfl rfl ?_
  intro p e s m args below meth c A Q hsz hC hM hret hprop hthrow ls hl
  have hx := hC.1.1
  have hb := hC.1.2.1
  have hl : lv_has ls 3 [(0, .ref b), (1, .int x1)] := hl
  rw [f_X12_boatAtRank] at hf
  refine lv_aload_n hx hb dX12_boatAtRank_0 rfl (lv_at hl 0 rfl) ?_
  refine mm_get hC hM (k := 0) hp_this.1 rfl inAX12 (by decide) q2_16 rfl dX12_boatAtRank_1 ?_
  refine mm_get hC hM (k := 1) (hp_this.2.1).1 rfl inAX6 (by decide) q1_142 rfl dX12_boatAtRank_4 ?_
  refine lv_iload_n hx hb dX12_boatAtRank_7 rfl (lv_at hl 1 rfl) ?_
  obtain ⟨q8, hq8, hf⟩ := mm_bd hf
  refine mm_Vi (rest := []) hC hM (c_X3_placeOfRank l hq8 ((hp_this.2.1).2.2.1)) q4_193 q1_4 ykX3_placeOfRank q4_190 q4_191 q4_192 ((hp_this.2.1).2.2.1).1 rfl ⟨rfl, rfl⟩ ⟨Nat.le_of_ble_eq_true rfl, Nat.le_of_ble_eq_true rfl⟩ rfl hl.1 rfl (Nat.le_of_ble_eq_true rfl) dX12_boatAtRank_8 ⟨Nat.le_of_ble_eq_true rfl, Nat.le_of_ble_eq_true rfl⟩ (fun r w8 H locs hM hw => ?_)
  obtain ⟨hr, hw⟩ := hw
  rw [hr]
  rw [hw] at hM
  refine lv_istore_n (lv' := [(2, .int q8), (0, .ref b), (1, .int x1)]) hx hb dX12_boatAtRank_11 rfl hl (by decide) rfl (fun ls hl => ?_)
  refine lv_iload_n hx hb dX12_boatAtRank_12 rfl (lv_at hl 0 rfl) ?_
  refine lv_iconst (v := (-1)) hx hb dX12_boatAtRank_13 (by decide) ?_
  refine lv_icmp_ne (tgt := 25) hx hb dX12_boatAtRank_14 (by decide) (fun hcd => ?_) (fun hcd => ?_)
  · rw [if_neg hcd] at hf
    refine lv_aload_n hx hb dX12_boatAtRank_25 rfl (lv_at hl 1 rfl) ?_
    refine mm_get hC hM (k := 0) hp_this.1 rfl inAX12 (by decide) q2_16 rfl dX12_boatAtRank_26 ?_
    refine mm_get hC hM (k := 1) (hp_this.2.1).1 rfl inAX6 (by decide) q1_142 rfl dX12_boatAtRank_29 ?_
    refine mm_get hC hM (k := 0) ((hp_this.2.1).2.2.1).1 rfl inAX3 (by decide) q1_75 rfl dX12_boatAtRank_32 ?_
    refine lv_iload_n hx hb dX12_boatAtRank_35 rfl (lv_at hl 0 rfl) ?_
    obtain ⟨hg36, hf⟩ := mm_gd hf
    refine mm_iald hC hM (((hp_this.2.1).2.2.1).2.1) hg36 dX12_boatAtRank_36 ?_
    cases hf
    exact hret hM dX12_boatAtRank_37 rfl ⟨rfl, rfl, rfl⟩ (Nat.le_of_ble_eq_true rfl) (Nat.le_of_ble_eq_true rfl)
  · rw [if_pos hcd] at hf
    cases hf
    exact hthrow (names := ["java/lang/RuntimeException", "java/lang/Exception"]) hM hl.1 (by decide +kernel) (by decide +kernel) q3_223 q1_20 vxa_2 vxb_2 dX12_boatAtRank_17 dX12_boatAtRank_20 dX12_boatAtRank_21 dX12_boatAtRank_24 (by decide) (Nat.le_of_ble_eq_true rfl) (Nat.le_of_ble_eq_true rfl) (Nat.le_of_ble_eq_true rfl) ⟨(by simp), rfl, rfl⟩
def f_X12_addMove (K : Nat) (marsh_reeds_states : Nat → Int32) (marsh_reeds_count : Int32) (marsh_reeds_broken : Int32) (marsh_fleet_numbers : Nat → Int32) (marsh_fleet_cells : Nat → Int32) (marsh_fleet_fares : Nat → Int32) (marsh_fleet_count : Int32) (marsh_fleet_nextNumber : Int32) (marsh_fleet_total : Int32) (marsh_fleet_removedFares : Int32) (marsh_fleet_meetings : Int32) (marsh_plans_moves : Nat → Int32) (marsh_plans_lengths : Nat → Int32) (marsh_landings_cells : Nat → Int32) (marsh_landings_count : Int32) (marsh_fogSide : Int32) (history_slots : Nat → mm_MV) (history_free : Int32) (history_count : Int32) (x1 : Int32) (x2 : Int32) : Option (Nat × Int32 × (Nat → Int32) × (Nat → Int32) × (Nat → mm_MV) × Int32 × Int32) := (f_X4_note history_slots history_free marsh_reeds_states marsh_reeds_count marsh_reeds_broken marsh_fleet_numbers marsh_fleet_cells marsh_fleet_fares marsh_fleet_count marsh_fleet_nextNumber marsh_fleet_total marsh_fleet_removedFares marsh_fleet_meetings marsh_plans_moves marsh_plans_lengths marsh_landings_cells marsh_landings_count marsh_fogSide).bind fun q8 => (f_X8_extend K marsh_plans_moves marsh_plans_lengths x1 x2).bind fun q21 => (f_X12_settled history_free history_count q21.1).bind fun q24 => if q24.1 = 0 then some (0, q24.2.1, q21.2.1, q21.2.2, q8, q24.2.2.1, q24.2.2.2) else some (q24.1, 0, q21.2.1, q21.2.2, q8, q24.2.2.1, q24.2.2.2)
set_option maxHeartbeats 4000000 in
set_option maxRecDepth 100000 in
theorem c_X12_addMove (l : Launch) (hfl : l.stackTraces = false) {G : mm_G} {K : Nat} {w : va_W} {sz : Nat} {b : Nat} {marsh_reeds_states : Nat → Int32} {marsh_reeds_count : Int32} {marsh_reeds_broken : Int32} {marsh_fleet_numbers : Nat → Int32} {marsh_fleet_cells : Nat → Int32} {marsh_fleet_fares : Nat → Int32} {marsh_fleet_count : Int32} {marsh_fleet_nextNumber : Int32} {marsh_fleet_total : Int32} {marsh_fleet_removedFares : Int32} {marsh_fleet_meetings : Int32} {marsh_plans_moves : Nat → Int32} {marsh_plans_lengths : Nat → Int32} {marsh_landings_cells : Nat → Int32} {marsh_landings_count : Int32} {marsh_fogSide : Int32} {snapshot_reeds_states : Nat → Int32} {snapshot_reeds_count : Int32} {snapshot_reeds_broken : Int32} {snapshot_fleet_numbers : Nat → Int32} {snapshot_fleet_cells : Nat → Int32} {snapshot_fleet_fares : Nat → Int32} {snapshot_fleet_count : Int32} {snapshot_fleet_nextNumber : Int32} {snapshot_fleet_total : Int32} {snapshot_fleet_removedFares : Int32} {snapshot_fleet_meetings : Int32} {snapshot_plans_moves : Nat → Int32} {snapshot_plans_lengths : Nat → Int32} {snapshot_landings_cells : Nat → Int32} {snapshot_landings_count : Int32} {snapshot_fogSide : Int32} {history_slots : Nat → mm_MV} {history_free : Int32} {history_count : Int32} {ways_tolls : Nat → Int32} {ways_queue : Nat → Int32} {ways_heap : Nat → Int32} {ways_heapSize : Int32} {ways_found : Nat → Int32} {ways_improved : Nat → Int32} {pairing_costs : Nat → Int32} {pairing_best : Nat → Int32} {reader_kinds : Nat → Int32} {reader_starts : Nat → Int32} {reader_count : Int32} {commandText_signs : Nat → Int32} {commandText_length : Int32} {line_signs : Nat → Int32} {line_length : Int32} {spareMoves : Nat → Int32} {snapshotTaken : Int32} {lastErrorPosition : Int32} {lastFailedCommand : Int32} {x1 : Int32} {x2 : Int32} {X : Nat × Int32 × (Nat → Int32) × (Nat → Int32) × (Nat → mm_MV) × Int32 × Int32} (hf : f_X12_addMove K marsh_reeds_states marsh_reeds_count marsh_reeds_broken marsh_fleet_numbers marsh_fleet_cells marsh_fleet_fares marsh_fleet_count marsh_fleet_nextNumber marsh_fleet_total marsh_fleet_removedFares marsh_fleet_meetings marsh_plans_moves marsh_plans_lengths marsh_landings_cells marsh_landings_count marsh_fogSide history_slots history_free history_count x1 x2 = some X) (hp_this : At12 G w b marsh_reeds_states marsh_reeds_count marsh_reeds_broken marsh_fleet_numbers marsh_fleet_cells marsh_fleet_fares marsh_fleet_count marsh_fleet_nextNumber marsh_fleet_total marsh_fleet_removedFares marsh_fleet_meetings marsh_plans_moves marsh_plans_lengths marsh_landings_cells marsh_landings_count marsh_fogSide snapshot_reeds_states snapshot_reeds_count snapshot_reeds_broken snapshot_fleet_numbers snapshot_fleet_cells snapshot_fleet_fares snapshot_fleet_count snapshot_fleet_nextNumber snapshot_fleet_total snapshot_fleet_removedFares snapshot_fleet_meetings snapshot_plans_moves snapshot_plans_lengths snapshot_landings_cells snapshot_landings_count snapshot_fogSide history_slots history_free history_count ways_tolls ways_queue ways_heap ways_heapSize ways_found ways_improved pairing_costs pairing_best reader_kinds reader_starts reader_count commandText_signs commandText_length line_signs line_length spareMoves snapshotTaken lastErrorPosition lastFailedCommand) : vx_Met l yX12_addMove (Cond.code yX12_addMove cX12_addMove 3 (some .int) :: gAll) ({ frames := 8, cells := 1, slots := 6, locals := 141 }) (va_Pc [.ref b, .int x1, .int x2] (mm_Pre G w sz)) (mm_Qi G w sz (fun r w' => X.1 = 0 ∧ r = X.2.1 ∧ At12 G w' b marsh_reeds_states marsh_reeds_count marsh_reeds_broken marsh_fleet_numbers marsh_fleet_cells marsh_fleet_fares marsh_fleet_count marsh_fleet_nextNumber marsh_fleet_total marsh_fleet_removedFares marsh_fleet_meetings X.2.2.1 X.2.2.2.1 marsh_landings_cells marsh_landings_count marsh_fogSide snapshot_reeds_states snapshot_reeds_count snapshot_reeds_broken snapshot_fleet_numbers snapshot_fleet_cells snapshot_fleet_fares snapshot_fleet_count snapshot_fleet_nextNumber snapshot_fleet_total snapshot_fleet_removedFares snapshot_fleet_meetings snapshot_plans_moves snapshot_plans_lengths snapshot_landings_cells snapshot_landings_count snapshot_fogSide X.2.2.2.2.1 X.2.2.2.2.2.1 X.2.2.2.2.2.2 ways_tolls ways_queue ways_heap ways_heapSize ways_found ways_improved pairing_costs pairing_best reader_kinds reader_starts reader_count commandText_signs commandText_length line_signs line_length spareMoves snapshotTaken lastErrorPosition lastFailedCommand ∧ mm_fr w w' b (b + 152))) (mm_QX G w sz (fun E w' => X.1 ≠ 0 ∧ E = mm_ex X.1 ∧ At12 G w' b marsh_reeds_states marsh_reeds_count marsh_reeds_broken marsh_fleet_numbers marsh_fleet_cells marsh_fleet_fares marsh_fleet_count marsh_fleet_nextNumber marsh_fleet_total marsh_fleet_removedFares marsh_fleet_meetings X.2.2.1 X.2.2.2.1 marsh_landings_cells marsh_landings_count marsh_fogSide snapshot_reeds_states snapshot_reeds_count snapshot_reeds_broken snapshot_fleet_numbers snapshot_fleet_cells snapshot_fleet_fares snapshot_fleet_count snapshot_fleet_nextNumber snapshot_fleet_total snapshot_fleet_removedFares snapshot_fleet_meetings snapshot_plans_moves snapshot_plans_lengths snapshot_landings_cells snapshot_landings_count snapshot_fogSide X.2.2.2.2.1 X.2.2.2.2.2.1 X.2.2.2.2.2.2 ways_tolls ways_queue ways_heap ways_heapSize ways_found ways_improved pairing_costs pairing_best reader_kinds reader_starts reader_count commandText_signs commandText_length line_signs line_length spareMoves snapshotTaken lastErrorPosition lastFailedCommand ∧ mm_fr w w' b (b + 152))) 1 6 (va_A w sz) := by
  refine mm_xheadI hfl [.ref b, .int x1, .int x2] (by decide +kernel) rfl (Nat.le_of_ble_eq_true rfl) rfl rfl ?_
  intro p e s m args below meth c A Q hsz hC hM hret hprop hthrow ls hl
  have hx := hC.1.1
  have hb := hC.1.2.1
  have hl : lv_has ls 3 [(0, .ref b), (1, .int x1), (2, .int x2)] := hl
  have hF : mm_fr w w b (b + 152) := mm_fr.rf
  rw [f_X12_addMove] at hf
  obtain ⟨hc_this, hp_this_marsh, hp_this_snapshot, hp_this_history, hp_this_ways, hp_this_pairing, hp_this_reader, hp_this_commandText, hp_this_line, hp_this_spareMoves⟩ := hp_this
  obtain ⟨hc_this_marsh, hp_this_marsh_reeds, hp_this_marsh_fleet, hp_this_marsh_plans, hp_this_marsh_landings⟩ := hp_this_marsh
  refine lv_aload_n hx hb dX12_addMove_0 rfl (lv_at hl 0 rfl) ?_
  refine mm_get hC hM (k := 2) hc_this rfl inAX12 (by decide) q2_18 rfl dX12_addMove_1 ?_
  refine lv_aload_n hx hb dX12_addMove_4 rfl (lv_at hl 0 rfl) ?_
  refine mm_get hC hM (k := 0) hc_this rfl inAX12 (by decide) q2_16 rfl dX12_addMove_5 ?_
  obtain ⟨q8, hq8, hf⟩ := mm_bd hf
  refine mm_Vv (rest := []) hC hM (c_X4_note l hq8 hp_this_history ⟨hc_this_marsh, hp_this_marsh_reeds, hp_this_marsh_fleet, hp_this_marsh_plans, hp_this_marsh_landings⟩ (by omega)) q3_178 q1_7 ykX4_note q3_175 q3_176 q3_177 hp_this_history.1 rfl ⟨rfl, rfl⟩ ⟨Nat.le_of_ble_eq_true rfl, Nat.le_of_ble_eq_true rfl⟩ rfl hl.1 rfl (Nat.le_of_ble_eq_true rfl) dX12_addMove_8 ⟨Nat.le_of_ble_eq_true rfl, Nat.le_of_ble_eq_true rfl⟩ (fun w8 H locs hM hw => ?_)
  obtain ⟨hn_this, hfr⟩ := hw
  have hc_this := hfr.keep hc_this (by omega)
  have hp_this_spareMoves := hfr.keep hp_this_spareMoves (by omega)
  have hc_this_marsh := hfr.keep hc_this_marsh (by omega)
  have hp_this_marsh_reeds := hp_this_marsh_reeds.keep hfr (by omega)
  have hp_this_marsh_fleet := hp_this_marsh_fleet.keep hfr (by omega)
  have hp_this_marsh_plans := hp_this_marsh_plans.keep hfr (by omega)
  have hp_this_marsh_landings := hp_this_marsh_landings.keep hfr (by omega)
  have hp_this_snapshot := hp_this_snapshot.keep hfr (by omega)
  have hp_this_ways := hp_this_ways.keep hfr (by omega)
  have hp_this_pairing := hp_this_pairing.keep hfr (by omega)
  have hp_this_reader := hp_this_reader.keep hfr (by omega)
  have hp_this_commandText := hp_this_commandText.keep hfr (by omega)
  have hp_this_line := hp_this_line.keep hfr (by omega)
  have hp_this_history := hn_this
  have hF := hF.tr (hfr.wide (by omega) (by omega))
  refine lv_aload_n hx hb dX12_addMove_11 rfl (lv_at hl 0 rfl) ?_
  refine lv_aload_n hx hb dX12_addMove_12 rfl (lv_at hl 0 rfl) ?_
  refine mm_get hC hM (k := 0) hc_this rfl inAX12 (by decide) q2_16 rfl dX12_addMove_13 ?_
  refine mm_get hC hM (k := 2) hc_this_marsh rfl inAX6 (by decide) q1_144 rfl dX12_addMove_16 ?_
  refine lv_iload_n hx hb dX12_addMove_19 rfl (lv_at hl 1 rfl) ?_
  refine lv_iload_n hx hb dX12_addMove_20 rfl (lv_at hl 2 rfl) ?_
  obtain ⟨q21, hq21, hf⟩ := mm_bd hf
  refine mm_Vi (rest := [.ref b]) hC hM (c_X8_extend l hq21 hp_this_marsh_plans) q4_208 q1_5 ykX8_extend q4_205 q4_206 q4_207 hp_this_marsh_plans.1 rfl ⟨rfl, rfl⟩ ⟨Nat.le_of_ble_eq_true rfl, Nat.le_of_ble_eq_true rfl⟩ rfl hl.1 rfl (Nat.le_of_ble_eq_true rfl) dX12_addMove_21 ⟨Nat.le_of_ble_eq_true rfl, Nat.le_of_ble_eq_true rfl⟩ (fun r w21 H locs hM hw => ?_)
  obtain ⟨hr, hn_this, hfr⟩ := hw
  rw [hr]
  have hc_this := hfr.keep hc_this (by omega)
  have hp_this_spareMoves := hfr.keep hp_this_spareMoves (by omega)
  have hc_this_marsh := hfr.keep hc_this_marsh (by omega)
  have hp_this_marsh_reeds := hp_this_marsh_reeds.keep hfr (by omega)
  have hp_this_marsh_fleet := hp_this_marsh_fleet.keep hfr (by omega)
  have hp_this_marsh_landings := hp_this_marsh_landings.keep hfr (by omega)
  have hp_this_snapshot := hp_this_snapshot.keep hfr (by omega)
  have hp_this_history := hp_this_history.keep hfr (by omega)
  have hp_this_ways := hp_this_ways.keep hfr (by omega)
  have hp_this_pairing := hp_this_pairing.keep hfr (by omega)
  have hp_this_reader := hp_this_reader.keep hfr (by omega)
  have hp_this_commandText := hp_this_commandText.keep hfr (by omega)
  have hp_this_line := hp_this_line.keep hfr (by omega)
  have hp_this_marsh_plans := hn_this
  have hF := hF.tr (hfr.wide (by omega) (by omega))
  obtain ⟨q24, hq24, hf⟩ := mm_bd hf
  refine mm_xVi (rest := []) hC hM (c_X12_settled l hfl hq24 ⟨hc_this, ⟨hc_this_marsh, hp_this_marsh_reeds, hp_this_marsh_fleet, hp_this_marsh_plans, hp_this_marsh_landings⟩, hp_this_snapshot, hp_this_history, hp_this_ways, hp_this_pairing, hp_this_reader, hp_this_commandText, hp_this_line, hp_this_spareMoves⟩) q3_201 q1_1 ykX12_settled q3_198 q3_200 qp_bbc23764 hc_this rfl ⟨rfl, rfl⟩ ⟨Nat.le_of_ble_eq_true rfl, Nat.le_of_ble_eq_true rfl⟩ rfl hl.1 rfl (Nat.le_of_ble_eq_true rfl) dX12_addMove_24 ⟨Nat.le_of_ble_eq_true rfl, Nat.le_of_ble_eq_true rfl⟩ (fun E ce qE w24 H locs hM hw hqE hv9 hcl9 => ?_) (fun r w24 H locs hM hw => ?_)
  · obtain ⟨hne, hE, hn_this, hfr⟩ := hw
    rw [if_neg hne] at hf
    obtain ⟨hc_this, hp_this_marsh, hp_this_snapshot, hp_this_history, hp_this_ways, hp_this_pairing, hp_this_reader, hp_this_commandText, hp_this_line, hp_this_spareMoves⟩ := hn_this
    obtain ⟨hc_this_marsh, hp_this_marsh_reeds, hp_this_marsh_fleet, hp_this_marsh_plans, hp_this_marsh_landings⟩ := hp_this_marsh
    have hF := hF.tr (hfr.wide (by omega) (by omega))
    cases hf
    exact hprop hM hqE hv9 hcl9 ⟨hne, hE, ⟨hc_this, ⟨hc_this_marsh, hp_this_marsh_reeds, hp_this_marsh_fleet, hp_this_marsh_plans, hp_this_marsh_landings⟩, hp_this_snapshot, hp_this_history, hp_this_ways, hp_this_pairing, hp_this_reader, hp_this_commandText, hp_this_line, hp_this_spareMoves⟩, hF⟩ (Nat.le_of_ble_eq_true rfl) (Nat.le_of_ble_eq_true rfl)
  obtain ⟨h0, hr, hn_this, hfr⟩ := hw
  rw [if_pos h0] at hf
  rw [hr]
  obtain ⟨hc_this, hp_this_marsh, hp_this_snapshot, hp_this_history, hp_this_ways, hp_this_pairing, hp_this_reader, hp_this_commandText, hp_this_line, hp_this_spareMoves⟩ := hn_this
  obtain ⟨hc_this_marsh, hp_this_marsh_reeds, hp_this_marsh_fleet, hp_this_marsh_plans, hp_this_marsh_landings⟩ := hp_this_marsh
  have hF := hF.tr (hfr.wide (by omega) (by omega))
  cases hf
  exact hret hM dX12_addMove_27 rfl ⟨rfl, rfl, ⟨hc_this, ⟨hc_this_marsh, hp_this_marsh_reeds, hp_this_marsh_fleet, hp_this_marsh_plans, hp_this_marsh_landings⟩, hp_this_snapshot, hp_this_history, hp_this_ways, hp_this_pairing, hp_this_reader, hp_this_commandText, hp_this_line, hp_this_spareMoves⟩, hF⟩ (Nat.le_of_ble_eq_true rfl) (Nat.le_of_ble_eq_true rfl)
def f_X12_clearPlan (marsh_reeds_states : Nat → Int32) (marsh_reeds_count : Int32) (marsh_reeds_broken : Int32) (marsh_fleet_numbers : Nat → Int32) (marsh_fleet_cells : Nat → Int32) (marsh_fleet_fares : Nat → Int32) (marsh_fleet_count : Int32) (marsh_fleet_nextNumber : Int32) (marsh_fleet_total : Int32) (marsh_fleet_removedFares : Int32) (marsh_fleet_meetings : Int32) (marsh_plans_moves : Nat → Int32) (marsh_plans_lengths : Nat → Int32) (marsh_landings_cells : Nat → Int32) (marsh_landings_count : Int32) (marsh_fogSide : Int32) (history_slots : Nat → mm_MV) (history_free : Int32) (history_count : Int32) (x1 : Int32) : Option (Nat × Int32 × (Nat → Int32) × (Nat → mm_MV) × Int32 × Int32) := (f_X4_note history_slots history_free marsh_reeds_states marsh_reeds_count marsh_reeds_broken marsh_fleet_numbers marsh_fleet_cells marsh_fleet_fares marsh_fleet_count marsh_fleet_nextNumber marsh_fleet_total marsh_fleet_removedFares marsh_fleet_meetings marsh_plans_moves marsh_plans_lengths marsh_landings_cells marsh_landings_count marsh_fogSide).bind fun q8 => (f_X8_empty marsh_plans_lengths x1).bind fun q20 => (f_X12_settled history_free history_count q20.1).bind fun q23 => if q23.1 = 0 then some (0, q23.2.1, q20.2, q8, q23.2.2.1, q23.2.2.2) else some (q23.1, 0, q20.2, q8, q23.2.2.1, q23.2.2.2)
set_option maxHeartbeats 4000000 in
set_option maxRecDepth 100000 in
theorem c_X12_clearPlan (l : Launch) (hfl : l.stackTraces = false) {G : mm_G} {w : va_W} {sz : Nat} {b : Nat} {marsh_reeds_states : Nat → Int32} {marsh_reeds_count : Int32} {marsh_reeds_broken : Int32} {marsh_fleet_numbers : Nat → Int32} {marsh_fleet_cells : Nat → Int32} {marsh_fleet_fares : Nat → Int32} {marsh_fleet_count : Int32} {marsh_fleet_nextNumber : Int32} {marsh_fleet_total : Int32} {marsh_fleet_removedFares : Int32} {marsh_fleet_meetings : Int32} {marsh_plans_moves : Nat → Int32} {marsh_plans_lengths : Nat → Int32} {marsh_landings_cells : Nat → Int32} {marsh_landings_count : Int32} {marsh_fogSide : Int32} {snapshot_reeds_states : Nat → Int32} {snapshot_reeds_count : Int32} {snapshot_reeds_broken : Int32} {snapshot_fleet_numbers : Nat → Int32} {snapshot_fleet_cells : Nat → Int32} {snapshot_fleet_fares : Nat → Int32} {snapshot_fleet_count : Int32} {snapshot_fleet_nextNumber : Int32} {snapshot_fleet_total : Int32} {snapshot_fleet_removedFares : Int32} {snapshot_fleet_meetings : Int32} {snapshot_plans_moves : Nat → Int32} {snapshot_plans_lengths : Nat → Int32} {snapshot_landings_cells : Nat → Int32} {snapshot_landings_count : Int32} {snapshot_fogSide : Int32} {history_slots : Nat → mm_MV} {history_free : Int32} {history_count : Int32} {ways_tolls : Nat → Int32} {ways_queue : Nat → Int32} {ways_heap : Nat → Int32} {ways_heapSize : Int32} {ways_found : Nat → Int32} {ways_improved : Nat → Int32} {pairing_costs : Nat → Int32} {pairing_best : Nat → Int32} {reader_kinds : Nat → Int32} {reader_starts : Nat → Int32} {reader_count : Int32} {commandText_signs : Nat → Int32} {commandText_length : Int32} {line_signs : Nat → Int32} {line_length : Int32} {spareMoves : Nat → Int32} {snapshotTaken : Int32} {lastErrorPosition : Int32} {lastFailedCommand : Int32} {x1 : Int32} {X : Nat × Int32 × (Nat → Int32) × (Nat → mm_MV) × Int32 × Int32} (hf : f_X12_clearPlan marsh_reeds_states marsh_reeds_count marsh_reeds_broken marsh_fleet_numbers marsh_fleet_cells marsh_fleet_fares marsh_fleet_count marsh_fleet_nextNumber marsh_fleet_total marsh_fleet_removedFares marsh_fleet_meetings marsh_plans_moves marsh_plans_lengths marsh_landings_cells marsh_landings_count marsh_fogSide history_slots history_free history_count x1 = some X) (hp_this : At12 G w b marsh_reeds_states marsh_reeds_count marsh_reeds_broken marsh_fleet_numbers marsh_fleet_cells marsh_fleet_fares marsh_fleet_count marsh_fleet_nextNumber marsh_fleet_total marsh_fleet_removedFares marsh_fleet_meetings marsh_plans_moves marsh_plans_lengths marsh_landings_cells marsh_landings_count marsh_fogSide snapshot_reeds_states snapshot_reeds_count snapshot_reeds_broken snapshot_fleet_numbers snapshot_fleet_cells snapshot_fleet_fares snapshot_fleet_count snapshot_fleet_nextNumber snapshot_fleet_total snapshot_fleet_removedFares snapshot_fleet_meetings snapshot_plans_moves snapshot_plans_lengths snapshot_landings_cells snapshot_landings_count snapshot_fogSide history_slots history_free history_count ways_tolls ways_queue ways_heap ways_heapSize ways_found ways_improved pairing_costs pairing_best reader_kinds reader_starts reader_count commandText_signs commandText_length line_signs line_length spareMoves snapshotTaken lastErrorPosition lastFailedCommand) : vx_Met l yX12_clearPlan (Cond.code yX12_clearPlan cX12_clearPlan 2 (some .int) :: gAll) ({ frames := 8, cells := 1, slots := 6, locals := 141 }) (va_Pc [.ref b, .int x1] (mm_Pre G w sz)) (mm_Qi G w sz (fun r w' => X.1 = 0 ∧ r = X.2.1 ∧ At12 G w' b marsh_reeds_states marsh_reeds_count marsh_reeds_broken marsh_fleet_numbers marsh_fleet_cells marsh_fleet_fares marsh_fleet_count marsh_fleet_nextNumber marsh_fleet_total marsh_fleet_removedFares marsh_fleet_meetings marsh_plans_moves X.2.2.1 marsh_landings_cells marsh_landings_count marsh_fogSide snapshot_reeds_states snapshot_reeds_count snapshot_reeds_broken snapshot_fleet_numbers snapshot_fleet_cells snapshot_fleet_fares snapshot_fleet_count snapshot_fleet_nextNumber snapshot_fleet_total snapshot_fleet_removedFares snapshot_fleet_meetings snapshot_plans_moves snapshot_plans_lengths snapshot_landings_cells snapshot_landings_count snapshot_fogSide X.2.2.2.1 X.2.2.2.2.1 X.2.2.2.2.2 ways_tolls ways_queue ways_heap ways_heapSize ways_found ways_improved pairing_costs pairing_best reader_kinds reader_starts reader_count commandText_signs commandText_length line_signs line_length spareMoves snapshotTaken lastErrorPosition lastFailedCommand ∧ mm_fr w w' b (b + 152))) (mm_QX G w sz (fun E w' => X.1 ≠ 0 ∧ E = mm_ex X.1 ∧ At12 G w' b marsh_reeds_states marsh_reeds_count marsh_reeds_broken marsh_fleet_numbers marsh_fleet_cells marsh_fleet_fares marsh_fleet_count marsh_fleet_nextNumber marsh_fleet_total marsh_fleet_removedFares marsh_fleet_meetings marsh_plans_moves X.2.2.1 marsh_landings_cells marsh_landings_count marsh_fogSide snapshot_reeds_states snapshot_reeds_count snapshot_reeds_broken snapshot_fleet_numbers snapshot_fleet_cells snapshot_fleet_fares snapshot_fleet_count snapshot_fleet_nextNumber snapshot_fleet_total snapshot_fleet_removedFares snapshot_fleet_meetings snapshot_plans_moves snapshot_plans_lengths snapshot_landings_cells snapshot_landings_count snapshot_fogSide X.2.2.2.1 X.2.2.2.2.1 X.2.2.2.2.2 ways_tolls ways_queue ways_heap ways_heapSize ways_found ways_improved pairing_costs pairing_best reader_kinds reader_starts reader_count commandText_signs commandText_length line_signs line_length spareMoves snapshotTaken lastErrorPosition lastFailedCommand ∧ mm_fr w w' b (b + 152))) 1 6 (va_A w sz) := by
  refine mm_xheadI hfl [.ref b, .int x1] (by decide +kernel) rfl (Nat.le_of_ble_eq_true rfl) rfl rfl ?_
  intro p e s m args below meth c A Q hsz hC hM hret hprop hthrow ls hl
  have hx := hC.1.1
  have hb := hC.1.2.1
  have hl : lv_has ls 2 [(0, .ref b), (1, .int x1)] := hl
  have hF : mm_fr w w b (b + 152) := mm_fr.rf
  rw [f_X12_clearPlan] at hf
  obtain ⟨hc_this, hp_this_marsh, hp_this_snapshot, hp_this_history, hp_this_ways, hp_this_pairing, hp_this_reader, hp_this_commandText, hp_this_line, hp_this_spareMoves⟩ := hp_this
  obtain ⟨hc_this_marsh, hp_this_marsh_reeds, hp_this_marsh_fleet, hp_this_marsh_plans, hp_this_marsh_landings⟩ := hp_this_marsh
  refine lv_aload_n hx hb dX12_clearPlan_0 rfl (lv_at hl 0 rfl) ?_
  refine mm_get hC hM (k := 2) hc_this rfl inAX12 (by decide) q2_18 rfl dX12_clearPlan_1 ?_
  refine lv_aload_n hx hb dX12_clearPlan_4 rfl (lv_at hl 0 rfl) ?_
  refine mm_get hC hM (k := 0) hc_this rfl inAX12 (by decide) q2_16 rfl dX12_clearPlan_5 ?_
  obtain ⟨q8, hq8, hf⟩ := mm_bd hf
  refine mm_Vv (rest := []) hC hM (c_X4_note l hq8 hp_this_history ⟨hc_this_marsh, hp_this_marsh_reeds, hp_this_marsh_fleet, hp_this_marsh_plans, hp_this_marsh_landings⟩ (by omega)) q3_178 q1_7 ykX4_note q3_175 q3_176 q3_177 hp_this_history.1 rfl ⟨rfl, rfl⟩ ⟨Nat.le_of_ble_eq_true rfl, Nat.le_of_ble_eq_true rfl⟩ rfl hl.1 rfl (Nat.le_of_ble_eq_true rfl) dX12_clearPlan_8 ⟨Nat.le_of_ble_eq_true rfl, Nat.le_of_ble_eq_true rfl⟩ (fun w8 H locs hM hw => ?_)
  obtain ⟨hn_this, hfr⟩ := hw
  have hc_this := hfr.keep hc_this (by omega)
  have hp_this_spareMoves := hfr.keep hp_this_spareMoves (by omega)
  have hc_this_marsh := hfr.keep hc_this_marsh (by omega)
  have hp_this_marsh_reeds := hp_this_marsh_reeds.keep hfr (by omega)
  have hp_this_marsh_fleet := hp_this_marsh_fleet.keep hfr (by omega)
  have hp_this_marsh_plans := hp_this_marsh_plans.keep hfr (by omega)
  have hp_this_marsh_landings := hp_this_marsh_landings.keep hfr (by omega)
  have hp_this_snapshot := hp_this_snapshot.keep hfr (by omega)
  have hp_this_ways := hp_this_ways.keep hfr (by omega)
  have hp_this_pairing := hp_this_pairing.keep hfr (by omega)
  have hp_this_reader := hp_this_reader.keep hfr (by omega)
  have hp_this_commandText := hp_this_commandText.keep hfr (by omega)
  have hp_this_line := hp_this_line.keep hfr (by omega)
  have hp_this_history := hn_this
  have hF := hF.tr (hfr.wide (by omega) (by omega))
  refine lv_aload_n hx hb dX12_clearPlan_11 rfl (lv_at hl 0 rfl) ?_
  refine lv_aload_n hx hb dX12_clearPlan_12 rfl (lv_at hl 0 rfl) ?_
  refine mm_get hC hM (k := 0) hc_this rfl inAX12 (by decide) q2_16 rfl dX12_clearPlan_13 ?_
  refine mm_get hC hM (k := 2) hc_this_marsh rfl inAX6 (by decide) q1_144 rfl dX12_clearPlan_16 ?_
  refine lv_iload_n hx hb dX12_clearPlan_19 rfl (lv_at hl 1 rfl) ?_
  obtain ⟨q20, hq20, hf⟩ := mm_bd hf
  refine mm_Vi (rest := [.ref b]) hC hM (c_X8_empty l hq20 hp_this_marsh_plans) q4_231 q1_5 ykX8_empty q4_228 q4_229 q4_230 hp_this_marsh_plans.1 rfl ⟨rfl, rfl⟩ ⟨Nat.le_of_ble_eq_true rfl, Nat.le_of_ble_eq_true rfl⟩ rfl hl.1 rfl (Nat.le_of_ble_eq_true rfl) dX12_clearPlan_20 ⟨Nat.le_of_ble_eq_true rfl, Nat.le_of_ble_eq_true rfl⟩ (fun r w20 H locs hM hw => ?_)
  obtain ⟨hr, hn_this, hfr⟩ := hw
  rw [hr]
  have hc_this := hfr.keep hc_this (by omega)
  have hp_this_spareMoves := hfr.keep hp_this_spareMoves (by omega)
  have hc_this_marsh := hfr.keep hc_this_marsh (by omega)
  have hp_this_marsh_reeds := hp_this_marsh_reeds.keep hfr (by omega)
  have hp_this_marsh_fleet := hp_this_marsh_fleet.keep hfr (by omega)
  have hp_this_marsh_landings := hp_this_marsh_landings.keep hfr (by omega)
  have hp_this_snapshot := hp_this_snapshot.keep hfr (by omega)
  have hp_this_history := hp_this_history.keep hfr (by omega)
  have hp_this_ways := hp_this_ways.keep hfr (by omega)
  have hp_this_pairing := hp_this_pairing.keep hfr (by omega)
  have hp_this_reader := hp_this_reader.keep hfr (by omega)
  have hp_this_commandText := hp_this_commandText.keep hfr (by omega)
  have hp_this_line := hp_this_line.keep hfr (by omega)
  have hp_this_marsh_plans := hn_this
  have hF := hF.tr (hfr.wide (by omega) (by omega))
  obtain ⟨q23, hq23, hf⟩ := mm_bd hf
  refine mm_xVi (rest := []) hC hM (c_X12_settled l hfl hq23 ⟨hc_this, ⟨hc_this_marsh, hp_this_marsh_reeds, hp_this_marsh_fleet, hp_this_marsh_plans, hp_this_marsh_landings⟩, hp_this_snapshot, hp_this_history, hp_this_ways, hp_this_pairing, hp_this_reader, hp_this_commandText, hp_this_line, hp_this_spareMoves⟩) q3_201 q1_1 ykX12_settled q3_198 q3_200 qp_bbc23764 hc_this rfl ⟨rfl, rfl⟩ ⟨Nat.le_of_ble_eq_true rfl, Nat.le_of_ble_eq_true rfl⟩ rfl hl.1 rfl (Nat.le_of_ble_eq_true rfl) dX12_clearPlan_23 ⟨Nat.le_of_ble_eq_true rfl, Nat.le_of_ble_eq_true rfl⟩ (fun E ce qE w23 H locs hM hw hqE hv9 hcl9 => ?_) (fun r w23 H locs hM hw => ?_)
  · obtain ⟨hne, hE, hn_this, hfr⟩ := hw
    rw [if_neg hne] at hf
    obtain ⟨hc_this, hp_this_marsh, hp_this_snapshot, hp_this_history, hp_this_ways, hp_this_pairing, hp_this_reader, hp_this_commandText, hp_this_line, hp_this_spareMoves⟩ := hn_this
    obtain ⟨hc_this_marsh, hp_this_marsh_reeds, hp_this_marsh_fleet, hp_this_marsh_plans, hp_this_marsh_landings⟩ := hp_this_marsh
    have hF := hF.tr (hfr.wide (by omega) (by omega))
    cases hf
    exact hprop hM hqE hv9 hcl9 ⟨hne, hE, ⟨hc_this, ⟨hc_this_marsh, hp_this_marsh_reeds, hp_this_marsh_fleet, hp_this_marsh_plans, hp_this_marsh_landings⟩, hp_this_snapshot, hp_this_history, hp_this_ways, hp_this_pairing, hp_this_reader, hp_this_commandText, hp_this_line, hp_this_spareMoves⟩, hF⟩ (Nat.le_of_ble_eq_true rfl) (Nat.le_of_ble_eq_true rfl)
  obtain ⟨h0, hr, hn_this, hfr⟩ := hw
  rw [if_pos h0] at hf
  rw [hr]
  obtain ⟨hc_this, hp_this_marsh, hp_this_snapshot, hp_this_history, hp_this_ways, hp_this_pairing, hp_this_reader, hp_this_commandText, hp_this_line, hp_this_spareMoves⟩ := hn_this
  obtain ⟨hc_this_marsh, hp_this_marsh_reeds, hp_this_marsh_fleet, hp_this_marsh_plans, hp_this_marsh_landings⟩ := hp_this_marsh
  have hF := hF.tr (hfr.wide (by omega) (by omega))
  cases hf
  exact hret hM dX12_clearPlan_26 rfl ⟨rfl, rfl, ⟨hc_this, ⟨hc_this_marsh, hp_this_marsh_reeds, hp_this_marsh_fleet, hp_this_marsh_plans, hp_this_marsh_landings⟩, hp_this_snapshot, hp_this_history, hp_this_ways, hp_this_pairing, hp_this_reader, hp_this_commandText, hp_this_line, hp_this_spareMoves⟩, hF⟩ (Nat.le_of_ble_eq_true rfl) (Nat.le_of_ble_eq_true rfl)
def f_X12_mirror (K : Nat) (marsh_reeds_states : Nat → Int32) (marsh_reeds_count : Int32) (marsh_reeds_broken : Int32) (marsh_fleet_numbers : Nat → Int32) (marsh_fleet_cells : Nat → Int32) (marsh_fleet_fares : Nat → Int32) (marsh_fleet_count : Int32) (marsh_fleet_nextNumber : Int32) (marsh_fleet_total : Int32) (marsh_fleet_removedFares : Int32) (marsh_fleet_meetings : Int32) (marsh_plans_moves : Nat → Int32) (marsh_plans_lengths : Nat → Int32) (marsh_landings_cells : Nat → Int32) (marsh_landings_count : Int32) (marsh_fogSide : Int32) (history_slots : Nat → mm_MV) (history_free : Int32) (history_count : Int32) (x1 : Int32) (x2 : Int32) : Option (Nat × Int32 × (Nat → Int32) × (Nat → Int32) × (Nat → mm_MV) × Int32 × Int32) := (f_X4_note history_slots history_free marsh_reeds_states marsh_reeds_count marsh_reeds_broken marsh_fleet_numbers marsh_fleet_cells marsh_fleet_fares marsh_fleet_count marsh_fleet_nextNumber marsh_fleet_total marsh_fleet_removedFares marsh_fleet_meetings marsh_plans_moves marsh_plans_lengths marsh_landings_cells marsh_landings_count marsh_fogSide).bind fun q8 => (f_X8_putMirrored K marsh_plans_moves marsh_plans_lengths x1 x2).bind fun q21 => (f_X12_settled history_free history_count q21.1).bind fun q24 => if q24.1 = 0 then some (0, q24.2.1, q21.2.1, q21.2.2, q8, q24.2.2.1, q24.2.2.2) else some (q24.1, 0, q21.2.1, q21.2.2, q8, q24.2.2.1, q24.2.2.2)
set_option maxHeartbeats 4000000 in
set_option maxRecDepth 100000 in
theorem c_X12_mirror (l : Launch) (hfl : l.stackTraces = false) {G : mm_G} {K : Nat} {w : va_W} {sz : Nat} {b : Nat} {marsh_reeds_states : Nat → Int32} {marsh_reeds_count : Int32} {marsh_reeds_broken : Int32} {marsh_fleet_numbers : Nat → Int32} {marsh_fleet_cells : Nat → Int32} {marsh_fleet_fares : Nat → Int32} {marsh_fleet_count : Int32} {marsh_fleet_nextNumber : Int32} {marsh_fleet_total : Int32} {marsh_fleet_removedFares : Int32} {marsh_fleet_meetings : Int32} {marsh_plans_moves : Nat → Int32} {marsh_plans_lengths : Nat → Int32} {marsh_landings_cells : Nat → Int32} {marsh_landings_count : Int32} {marsh_fogSide : Int32} {snapshot_reeds_states : Nat → Int32} {snapshot_reeds_count : Int32} {snapshot_reeds_broken : Int32} {snapshot_fleet_numbers : Nat → Int32} {snapshot_fleet_cells : Nat → Int32} {snapshot_fleet_fares : Nat → Int32} {snapshot_fleet_count : Int32} {snapshot_fleet_nextNumber : Int32} {snapshot_fleet_total : Int32} {snapshot_fleet_removedFares : Int32} {snapshot_fleet_meetings : Int32} {snapshot_plans_moves : Nat → Int32} {snapshot_plans_lengths : Nat → Int32} {snapshot_landings_cells : Nat → Int32} {snapshot_landings_count : Int32} {snapshot_fogSide : Int32} {history_slots : Nat → mm_MV} {history_free : Int32} {history_count : Int32} {ways_tolls : Nat → Int32} {ways_queue : Nat → Int32} {ways_heap : Nat → Int32} {ways_heapSize : Int32} {ways_found : Nat → Int32} {ways_improved : Nat → Int32} {pairing_costs : Nat → Int32} {pairing_best : Nat → Int32} {reader_kinds : Nat → Int32} {reader_starts : Nat → Int32} {reader_count : Int32} {commandText_signs : Nat → Int32} {commandText_length : Int32} {line_signs : Nat → Int32} {line_length : Int32} {spareMoves : Nat → Int32} {snapshotTaken : Int32} {lastErrorPosition : Int32} {lastFailedCommand : Int32} {x1 : Int32} {x2 : Int32} {X : Nat × Int32 × (Nat → Int32) × (Nat → Int32) × (Nat → mm_MV) × Int32 × Int32} (hf : f_X12_mirror K marsh_reeds_states marsh_reeds_count marsh_reeds_broken marsh_fleet_numbers marsh_fleet_cells marsh_fleet_fares marsh_fleet_count marsh_fleet_nextNumber marsh_fleet_total marsh_fleet_removedFares marsh_fleet_meetings marsh_plans_moves marsh_plans_lengths marsh_landings_cells marsh_landings_count marsh_fogSide history_slots history_free history_count x1 x2 = some X) (hp_this : At12 G w b marsh_reeds_states marsh_reeds_count marsh_reeds_broken marsh_fleet_numbers marsh_fleet_cells marsh_fleet_fares marsh_fleet_count marsh_fleet_nextNumber marsh_fleet_total marsh_fleet_removedFares marsh_fleet_meetings marsh_plans_moves marsh_plans_lengths marsh_landings_cells marsh_landings_count marsh_fogSide snapshot_reeds_states snapshot_reeds_count snapshot_reeds_broken snapshot_fleet_numbers snapshot_fleet_cells snapshot_fleet_fares snapshot_fleet_count snapshot_fleet_nextNumber snapshot_fleet_total snapshot_fleet_removedFares snapshot_fleet_meetings snapshot_plans_moves snapshot_plans_lengths snapshot_landings_cells snapshot_landings_count snapshot_fogSide history_slots history_free history_count ways_tolls ways_queue ways_heap ways_heapSize ways_found ways_improved pairing_costs pairing_best reader_kinds reader_starts reader_count commandText_signs commandText_length line_signs line_length spareMoves snapshotTaken lastErrorPosition lastFailedCommand) : vx_Met l yX12_mirror (Cond.code yX12_mirror cX12_mirror 3 (some .int) :: gAll) ({ frames := 8, cells := 1, slots := 6, locals := 141 }) (va_Pc [.ref b, .int x1, .int x2] (mm_Pre G w sz)) (mm_Qi G w sz (fun r w' => X.1 = 0 ∧ r = X.2.1 ∧ At12 G w' b marsh_reeds_states marsh_reeds_count marsh_reeds_broken marsh_fleet_numbers marsh_fleet_cells marsh_fleet_fares marsh_fleet_count marsh_fleet_nextNumber marsh_fleet_total marsh_fleet_removedFares marsh_fleet_meetings X.2.2.1 X.2.2.2.1 marsh_landings_cells marsh_landings_count marsh_fogSide snapshot_reeds_states snapshot_reeds_count snapshot_reeds_broken snapshot_fleet_numbers snapshot_fleet_cells snapshot_fleet_fares snapshot_fleet_count snapshot_fleet_nextNumber snapshot_fleet_total snapshot_fleet_removedFares snapshot_fleet_meetings snapshot_plans_moves snapshot_plans_lengths snapshot_landings_cells snapshot_landings_count snapshot_fogSide X.2.2.2.2.1 X.2.2.2.2.2.1 X.2.2.2.2.2.2 ways_tolls ways_queue ways_heap ways_heapSize ways_found ways_improved pairing_costs pairing_best reader_kinds reader_starts reader_count commandText_signs commandText_length line_signs line_length spareMoves snapshotTaken lastErrorPosition lastFailedCommand ∧ mm_fr w w' b (b + 152))) (mm_QX G w sz (fun E w' => X.1 ≠ 0 ∧ E = mm_ex X.1 ∧ At12 G w' b marsh_reeds_states marsh_reeds_count marsh_reeds_broken marsh_fleet_numbers marsh_fleet_cells marsh_fleet_fares marsh_fleet_count marsh_fleet_nextNumber marsh_fleet_total marsh_fleet_removedFares marsh_fleet_meetings X.2.2.1 X.2.2.2.1 marsh_landings_cells marsh_landings_count marsh_fogSide snapshot_reeds_states snapshot_reeds_count snapshot_reeds_broken snapshot_fleet_numbers snapshot_fleet_cells snapshot_fleet_fares snapshot_fleet_count snapshot_fleet_nextNumber snapshot_fleet_total snapshot_fleet_removedFares snapshot_fleet_meetings snapshot_plans_moves snapshot_plans_lengths snapshot_landings_cells snapshot_landings_count snapshot_fogSide X.2.2.2.2.1 X.2.2.2.2.2.1 X.2.2.2.2.2.2 ways_tolls ways_queue ways_heap ways_heapSize ways_found ways_improved pairing_costs pairing_best reader_kinds reader_starts reader_count commandText_signs commandText_length line_signs line_length spareMoves snapshotTaken lastErrorPosition lastFailedCommand ∧ mm_fr w w' b (b + 152))) 1 6 (va_A w sz) := by
  refine mm_xheadI hfl [.ref b, .int x1, .int x2] (by decide +kernel) rfl (Nat.le_of_ble_eq_true rfl) rfl rfl ?_
  intro p e s m args below meth c A Q hsz hC hM hret hprop hthrow ls hl
  have hx := hC.1.1
  have hb := hC.1.2.1
  have hl : lv_has ls 3 [(0, .ref b), (1, .int x1), (2, .int x2)] := hl
  have hF : mm_fr w w b (b + 152) := mm_fr.rf
  rw [f_X12_mirror] at hf
  obtain ⟨hc_this, hp_this_marsh, hp_this_snapshot, hp_this_history, hp_this_ways, hp_this_pairing, hp_this_reader, hp_this_commandText, hp_this_line, hp_this_spareMoves⟩ := hp_this
  obtain ⟨hc_this_marsh, hp_this_marsh_reeds, hp_this_marsh_fleet, hp_this_marsh_plans, hp_this_marsh_landings⟩ := hp_this_marsh
  refine lv_aload_n hx hb dX12_mirror_0 rfl (lv_at hl 0 rfl) ?_
  refine mm_get hC hM (k := 2) hc_this rfl inAX12 (by decide) q2_18 rfl dX12_mirror_1 ?_
  refine lv_aload_n hx hb dX12_mirror_4 rfl (lv_at hl 0 rfl) ?_
  refine mm_get hC hM (k := 0) hc_this rfl inAX12 (by decide) q2_16 rfl dX12_mirror_5 ?_
  obtain ⟨q8, hq8, hf⟩ := mm_bd hf
  refine mm_Vv (rest := []) hC hM (c_X4_note l hq8 hp_this_history ⟨hc_this_marsh, hp_this_marsh_reeds, hp_this_marsh_fleet, hp_this_marsh_plans, hp_this_marsh_landings⟩ (by omega)) q3_178 q1_7 ykX4_note q3_175 q3_176 q3_177 hp_this_history.1 rfl ⟨rfl, rfl⟩ ⟨Nat.le_of_ble_eq_true rfl, Nat.le_of_ble_eq_true rfl⟩ rfl hl.1 rfl (Nat.le_of_ble_eq_true rfl) dX12_mirror_8 ⟨Nat.le_of_ble_eq_true rfl, Nat.le_of_ble_eq_true rfl⟩ (fun w8 H locs hM hw => ?_)
  obtain ⟨hn_this, hfr⟩ := hw
  have hc_this := hfr.keep hc_this (by omega)
  have hp_this_spareMoves := hfr.keep hp_this_spareMoves (by omega)
  have hc_this_marsh := hfr.keep hc_this_marsh (by omega)
  have hp_this_marsh_reeds := hp_this_marsh_reeds.keep hfr (by omega)
  have hp_this_marsh_fleet := hp_this_marsh_fleet.keep hfr (by omega)
  have hp_this_marsh_plans := hp_this_marsh_plans.keep hfr (by omega)
  have hp_this_marsh_landings := hp_this_marsh_landings.keep hfr (by omega)
  have hp_this_snapshot := hp_this_snapshot.keep hfr (by omega)
  have hp_this_ways := hp_this_ways.keep hfr (by omega)
  have hp_this_pairing := hp_this_pairing.keep hfr (by omega)
  have hp_this_reader := hp_this_reader.keep hfr (by omega)
  have hp_this_commandText := hp_this_commandText.keep hfr (by omega)
  have hp_this_line := hp_this_line.keep hfr (by omega)
  have hp_this_history := hn_this
  have hF := hF.tr (hfr.wide (by omega) (by omega))
  refine lv_aload_n hx hb dX12_mirror_11 rfl (lv_at hl 0 rfl) ?_
  refine lv_aload_n hx hb dX12_mirror_12 rfl (lv_at hl 0 rfl) ?_
  refine mm_get hC hM (k := 0) hc_this rfl inAX12 (by decide) q2_16 rfl dX12_mirror_13 ?_
  refine mm_get hC hM (k := 2) hc_this_marsh rfl inAX6 (by decide) q1_144 rfl dX12_mirror_16 ?_
  refine lv_iload_n hx hb dX12_mirror_19 rfl (lv_at hl 1 rfl) ?_
  refine lv_iload_n hx hb dX12_mirror_20 rfl (lv_at hl 2 rfl) ?_
  obtain ⟨q21, hq21, hf⟩ := mm_bd hf
  refine mm_Vi (rest := [.ref b]) hC hM (c_X8_putMirrored l hq21 hp_this_marsh_plans) q5_2 q1_5 ykX8_putMirrored q4_239 q5_0 q5_1 hp_this_marsh_plans.1 rfl ⟨rfl, rfl⟩ ⟨Nat.le_of_ble_eq_true rfl, Nat.le_of_ble_eq_true rfl⟩ rfl hl.1 rfl (Nat.le_of_ble_eq_true rfl) dX12_mirror_21 ⟨Nat.le_of_ble_eq_true rfl, Nat.le_of_ble_eq_true rfl⟩ (fun r w21 H locs hM hw => ?_)
  obtain ⟨hr, hn_this, hfr⟩ := hw
  rw [hr]
  have hc_this := hfr.keep hc_this (by omega)
  have hp_this_spareMoves := hfr.keep hp_this_spareMoves (by omega)
  have hc_this_marsh := hfr.keep hc_this_marsh (by omega)
  have hp_this_marsh_reeds := hp_this_marsh_reeds.keep hfr (by omega)
  have hp_this_marsh_fleet := hp_this_marsh_fleet.keep hfr (by omega)
  have hp_this_marsh_landings := hp_this_marsh_landings.keep hfr (by omega)
  have hp_this_snapshot := hp_this_snapshot.keep hfr (by omega)
  have hp_this_history := hp_this_history.keep hfr (by omega)
  have hp_this_ways := hp_this_ways.keep hfr (by omega)
  have hp_this_pairing := hp_this_pairing.keep hfr (by omega)
  have hp_this_reader := hp_this_reader.keep hfr (by omega)
  have hp_this_commandText := hp_this_commandText.keep hfr (by omega)
  have hp_this_line := hp_this_line.keep hfr (by omega)
  have hp_this_marsh_plans := hn_this
  have hF := hF.tr (hfr.wide (by omega) (by omega))
  obtain ⟨q24, hq24, hf⟩ := mm_bd hf
  refine mm_xVi (rest := []) hC hM (c_X12_settled l hfl hq24 ⟨hc_this, ⟨hc_this_marsh, hp_this_marsh_reeds, hp_this_marsh_fleet, hp_this_marsh_plans, hp_this_marsh_landings⟩, hp_this_snapshot, hp_this_history, hp_this_ways, hp_this_pairing, hp_this_reader, hp_this_commandText, hp_this_line, hp_this_spareMoves⟩) q3_201 q1_1 ykX12_settled q3_198 q3_200 qp_bbc23764 hc_this rfl ⟨rfl, rfl⟩ ⟨Nat.le_of_ble_eq_true rfl, Nat.le_of_ble_eq_true rfl⟩ rfl hl.1 rfl (Nat.le_of_ble_eq_true rfl) dX12_mirror_24 ⟨Nat.le_of_ble_eq_true rfl, Nat.le_of_ble_eq_true rfl⟩ (fun E ce qE w24 H locs hM hw hqE hv9 hcl9 => ?_) (fun r w24 H locs hM hw => ?_)
  · obtain ⟨hne, hE, hn_this, hfr⟩ := hw
    rw [if_neg hne] at hf
    obtain ⟨hc_this, hp_this_marsh, hp_this_snapshot, hp_this_history, hp_this_ways, hp_this_pairing, hp_this_reader, hp_this_commandText, hp_this_line, hp_this_spareMoves⟩ := hn_this
    obtain ⟨hc_this_marsh, hp_this_marsh_reeds, hp_this_marsh_fleet, hp_this_marsh_plans, hp_this_marsh_landings⟩ := hp_this_marsh
    have hF := hF.tr (hfr.wide (by omega) (by omega))
    cases hf
    exact hprop hM hqE hv9 hcl9 ⟨hne, hE, ⟨hc_this, ⟨hc_this_marsh, hp_this_marsh_reeds, hp_this_marsh_fleet, hp_this_marsh_plans, hp_this_marsh_landings⟩, hp_this_snapshot, hp_this_history, hp_this_ways, hp_this_pairing, hp_this_reader, hp_this_commandText, hp_this_line, hp_this_spareMoves⟩, hF⟩ (Nat.le_of_ble_eq_true rfl) (Nat.le_of_ble_eq_true rfl)
  obtain ⟨h0, hr, hn_this, hfr⟩ := hw
  rw [if_pos h0] at hf
  rw [hr]
  obtain ⟨hc_this, hp_this_marsh, hp_this_snapshot, hp_this_history, hp_this_ways, hp_this_pairing, hp_this_reader, hp_this_commandText, hp_this_line, hp_this_spareMoves⟩ := hn_this
  obtain ⟨hc_this_marsh, hp_this_marsh_reeds, hp_this_marsh_fleet, hp_this_marsh_plans, hp_this_marsh_landings⟩ := hp_this_marsh
  have hF := hF.tr (hfr.wide (by omega) (by omega))
  cases hf
  exact hret hM dX12_mirror_27 rfl ⟨rfl, rfl, ⟨hc_this, ⟨hc_this_marsh, hp_this_marsh_reeds, hp_this_marsh_fleet, hp_this_marsh_plans, hp_this_marsh_landings⟩, hp_this_snapshot, hp_this_history, hp_this_ways, hp_this_pairing, hp_this_reader, hp_this_commandText, hp_this_line, hp_this_spareMoves⟩, hF⟩ (Nat.le_of_ble_eq_true rfl) (Nat.le_of_ble_eq_true rfl)
def f_X12_reverse (K : Nat) (marsh_reeds_states : Nat → Int32) (marsh_reeds_count : Int32) (marsh_reeds_broken : Int32) (marsh_fleet_numbers : Nat → Int32) (marsh_fleet_cells : Nat → Int32) (marsh_fleet_fares : Nat → Int32) (marsh_fleet_count : Int32) (marsh_fleet_nextNumber : Int32) (marsh_fleet_total : Int32) (marsh_fleet_removedFares : Int32) (marsh_fleet_meetings : Int32) (marsh_plans_moves : Nat → Int32) (marsh_plans_lengths : Nat → Int32) (marsh_landings_cells : Nat → Int32) (marsh_landings_count : Int32) (marsh_fogSide : Int32) (history_slots : Nat → mm_MV) (history_free : Int32) (history_count : Int32) (x1 : Int32) (x2 : Int32) : Option (Nat × Int32 × (Nat → Int32) × (Nat → Int32) × (Nat → mm_MV) × Int32 × Int32) := (f_X4_note history_slots history_free marsh_reeds_states marsh_reeds_count marsh_reeds_broken marsh_fleet_numbers marsh_fleet_cells marsh_fleet_fares marsh_fleet_count marsh_fleet_nextNumber marsh_fleet_total marsh_fleet_removedFares marsh_fleet_meetings marsh_plans_moves marsh_plans_lengths marsh_landings_cells marsh_landings_count marsh_fogSide).bind fun q8 => (f_X8_putWayBack K marsh_plans_moves marsh_plans_lengths x1 x2).bind fun q21 => (f_X12_settled history_free history_count q21.1).bind fun q24 => if q24.1 = 0 then some (0, q24.2.1, q21.2.1, q21.2.2, q8, q24.2.2.1, q24.2.2.2) else some (q24.1, 0, q21.2.1, q21.2.2, q8, q24.2.2.1, q24.2.2.2)
set_option maxHeartbeats 4000000 in
set_option maxRecDepth 100000 in
theorem c_X12_reverse (l : Launch) (hfl : l.stackTraces = false) {G : mm_G} {K : Nat} {w : va_W} {sz : Nat} {b : Nat} {marsh_reeds_states : Nat → Int32} {marsh_reeds_count : Int32} {marsh_reeds_broken : Int32} {marsh_fleet_numbers : Nat → Int32} {marsh_fleet_cells : Nat → Int32} {marsh_fleet_fares : Nat → Int32} {marsh_fleet_count : Int32} {marsh_fleet_nextNumber : Int32} {marsh_fleet_total : Int32} {marsh_fleet_removedFares : Int32} {marsh_fleet_meetings : Int32} {marsh_plans_moves : Nat → Int32} {marsh_plans_lengths : Nat → Int32} {marsh_landings_cells : Nat → Int32} {marsh_landings_count : Int32} {marsh_fogSide : Int32} {snapshot_reeds_states : Nat → Int32} {snapshot_reeds_count : Int32} {snapshot_reeds_broken : Int32} {snapshot_fleet_numbers : Nat → Int32} {snapshot_fleet_cells : Nat → Int32} {snapshot_fleet_fares : Nat → Int32} {snapshot_fleet_count : Int32} {snapshot_fleet_nextNumber : Int32} {snapshot_fleet_total : Int32} {snapshot_fleet_removedFares : Int32} {snapshot_fleet_meetings : Int32} {snapshot_plans_moves : Nat → Int32} {snapshot_plans_lengths : Nat → Int32} {snapshot_landings_cells : Nat → Int32} {snapshot_landings_count : Int32} {snapshot_fogSide : Int32} {history_slots : Nat → mm_MV} {history_free : Int32} {history_count : Int32} {ways_tolls : Nat → Int32} {ways_queue : Nat → Int32} {ways_heap : Nat → Int32} {ways_heapSize : Int32} {ways_found : Nat → Int32} {ways_improved : Nat → Int32} {pairing_costs : Nat → Int32} {pairing_best : Nat → Int32} {reader_kinds : Nat → Int32} {reader_starts : Nat → Int32} {reader_count : Int32} {commandText_signs : Nat → Int32} {commandText_length : Int32} {line_signs : Nat → Int32} {line_length : Int32} {spareMoves : Nat → Int32} {snapshotTaken : Int32} {lastErrorPosition : Int32} {lastFailedCommand : Int32} {x1 : Int32} {x2 : Int32} {X : Nat × Int32 × (Nat → Int32) × (Nat → Int32) × (Nat → mm_MV) × Int32 × Int32} (hf : f_X12_reverse K marsh_reeds_states marsh_reeds_count marsh_reeds_broken marsh_fleet_numbers marsh_fleet_cells marsh_fleet_fares marsh_fleet_count marsh_fleet_nextNumber marsh_fleet_total marsh_fleet_removedFares marsh_fleet_meetings marsh_plans_moves marsh_plans_lengths marsh_landings_cells marsh_landings_count marsh_fogSide history_slots history_free history_count x1 x2 = some X) (hp_this : At12 G w b marsh_reeds_states marsh_reeds_count marsh_reeds_broken marsh_fleet_numbers marsh_fleet_cells marsh_fleet_fares marsh_fleet_count marsh_fleet_nextNumber marsh_fleet_total marsh_fleet_removedFares marsh_fleet_meetings marsh_plans_moves marsh_plans_lengths marsh_landings_cells marsh_landings_count marsh_fogSide snapshot_reeds_states snapshot_reeds_count snapshot_reeds_broken snapshot_fleet_numbers snapshot_fleet_cells snapshot_fleet_fares snapshot_fleet_count snapshot_fleet_nextNumber snapshot_fleet_total snapshot_fleet_removedFares snapshot_fleet_meetings snapshot_plans_moves snapshot_plans_lengths snapshot_landings_cells snapshot_landings_count snapshot_fogSide history_slots history_free history_count ways_tolls ways_queue ways_heap ways_heapSize ways_found ways_improved pairing_costs pairing_best reader_kinds reader_starts reader_count commandText_signs commandText_length line_signs line_length spareMoves snapshotTaken lastErrorPosition lastFailedCommand) : vx_Met l yX12_reverse (Cond.code yX12_reverse cX12_reverse 3 (some .int) :: gAll) ({ frames := 8, cells := 1, slots := 6, locals := 141 }) (va_Pc [.ref b, .int x1, .int x2] (mm_Pre G w sz)) (mm_Qi G w sz (fun r w' => X.1 = 0 ∧ r = X.2.1 ∧ At12 G w' b marsh_reeds_states marsh_reeds_count marsh_reeds_broken marsh_fleet_numbers marsh_fleet_cells marsh_fleet_fares marsh_fleet_count marsh_fleet_nextNumber marsh_fleet_total marsh_fleet_removedFares marsh_fleet_meetings X.2.2.1 X.2.2.2.1 marsh_landings_cells marsh_landings_count marsh_fogSide snapshot_reeds_states snapshot_reeds_count snapshot_reeds_broken snapshot_fleet_numbers snapshot_fleet_cells snapshot_fleet_fares snapshot_fleet_count snapshot_fleet_nextNumber snapshot_fleet_total snapshot_fleet_removedFares snapshot_fleet_meetings snapshot_plans_moves snapshot_plans_lengths snapshot_landings_cells snapshot_landings_count snapshot_fogSide X.2.2.2.2.1 X.2.2.2.2.2.1 X.2.2.2.2.2.2 ways_tolls ways_queue ways_heap ways_heapSize ways_found ways_improved pairing_costs pairing_best reader_kinds reader_starts reader_count commandText_signs commandText_length line_signs line_length spareMoves snapshotTaken lastErrorPosition lastFailedCommand ∧ mm_fr w w' b (b + 152))) (mm_QX G w sz (fun E w' => X.1 ≠ 0 ∧ E = mm_ex X.1 ∧ At12 G w' b marsh_reeds_states marsh_reeds_count marsh_reeds_broken marsh_fleet_numbers marsh_fleet_cells marsh_fleet_fares marsh_fleet_count marsh_fleet_nextNumber marsh_fleet_total marsh_fleet_removedFares marsh_fleet_meetings X.2.2.1 X.2.2.2.1 marsh_landings_cells marsh_landings_count marsh_fogSide snapshot_reeds_states snapshot_reeds_count snapshot_reeds_broken snapshot_fleet_numbers snapshot_fleet_cells snapshot_fleet_fares snapshot_fleet_count snapshot_fleet_nextNumber snapshot_fleet_total snapshot_fleet_removedFares snapshot_fleet_meetings snapshot_plans_moves snapshot_plans_lengths snapshot_landings_cells snapshot_landings_count snapshot_fogSide X.2.2.2.2.1 X.2.2.2.2.2.1 X.2.2.2.2.2.2 ways_tolls ways_queue ways_heap ways_heapSize ways_found ways_improved pairing_costs pairing_best reader_kinds reader_starts reader_count commandText_signs commandText_length line_signs line_length spareMoves snapshotTaken lastErrorPosition lastFailedCommand ∧ mm_fr w w' b (b + 152))) 1 6 (va_A w sz) := by
  refine mm_xheadI hfl [.ref b, .int x1, .int x2] (by decide +kernel) rfl (Nat.le_of_ble_eq_true rfl) rfl rfl ?_
  intro p e s m args below meth c A Q hsz hC hM hret hprop hthrow ls hl
  have hx := hC.1.1
  have hb := hC.1.2.1
  have hl : lv_has ls 3 [(0, .ref b), (1, .int x1), (2, .int x2)] := hl
  have hF : mm_fr w w b (b + 152) := mm_fr.rf
  rw [f_X12_reverse] at hf
  obtain ⟨hc_this, hp_this_marsh, hp_this_snapshot, hp_this_history, hp_this_ways, hp_this_pairing, hp_this_reader, hp_this_commandText, hp_this_line, hp_this_spareMoves⟩ := hp_this
  obtain ⟨hc_this_marsh, hp_this_marsh_reeds, hp_this_marsh_fleet, hp_this_marsh_plans, hp_this_marsh_landings⟩ := hp_this_marsh
  refine lv_aload_n hx hb dX12_reverse_0 rfl (lv_at hl 0 rfl) ?_
  refine mm_get hC hM (k := 2) hc_this rfl inAX12 (by decide) q2_18 rfl dX12_reverse_1 ?_
  refine lv_aload_n hx hb dX12_reverse_4 rfl (lv_at hl 0 rfl) ?_
  refine mm_get hC hM (k := 0) hc_this rfl inAX12 (by decide) q2_16 rfl dX12_reverse_5 ?_
  obtain ⟨q8, hq8, hf⟩ := mm_bd hf
  refine mm_Vv (rest := []) hC hM (c_X4_note l hq8 hp_this_history ⟨hc_this_marsh, hp_this_marsh_reeds, hp_this_marsh_fleet, hp_this_marsh_plans, hp_this_marsh_landings⟩ (by omega)) q3_178 q1_7 ykX4_note q3_175 q3_176 q3_177 hp_this_history.1 rfl ⟨rfl, rfl⟩ ⟨Nat.le_of_ble_eq_true rfl, Nat.le_of_ble_eq_true rfl⟩ rfl hl.1 rfl (Nat.le_of_ble_eq_true rfl) dX12_reverse_8 ⟨Nat.le_of_ble_eq_true rfl, Nat.le_of_ble_eq_true rfl⟩ (fun w8 H locs hM hw => ?_)
  obtain ⟨hn_this, hfr⟩ := hw
  have hc_this := hfr.keep hc_this (by omega)
  have hp_this_spareMoves := hfr.keep hp_this_spareMoves (by omega)
  have hc_this_marsh := hfr.keep hc_this_marsh (by omega)
  have hp_this_marsh_reeds := hp_this_marsh_reeds.keep hfr (by omega)
  have hp_this_marsh_fleet := hp_this_marsh_fleet.keep hfr (by omega)
  have hp_this_marsh_plans := hp_this_marsh_plans.keep hfr (by omega)
  have hp_this_marsh_landings := hp_this_marsh_landings.keep hfr (by omega)
  have hp_this_snapshot := hp_this_snapshot.keep hfr (by omega)
  have hp_this_ways := hp_this_ways.keep hfr (by omega)
  have hp_this_pairing := hp_this_pairing.keep hfr (by omega)
  have hp_this_reader := hp_this_reader.keep hfr (by omega)
  have hp_this_commandText := hp_this_commandText.keep hfr (by omega)
  have hp_this_line := hp_this_line.keep hfr (by omega)
  have hp_this_history := hn_this
  have hF := hF.tr (hfr.wide (by omega) (by omega))
  refine lv_aload_n hx hb dX12_reverse_11 rfl (lv_at hl 0 rfl) ?_
  refine lv_aload_n hx hb dX12_reverse_12 rfl (lv_at hl 0 rfl) ?_
  refine mm_get hC hM (k := 0) hc_this rfl inAX12 (by decide) q2_16 rfl dX12_reverse_13 ?_
  refine mm_get hC hM (k := 2) hc_this_marsh rfl inAX6 (by decide) q1_144 rfl dX12_reverse_16 ?_
  refine lv_iload_n hx hb dX12_reverse_19 rfl (lv_at hl 1 rfl) ?_
  refine lv_iload_n hx hb dX12_reverse_20 rfl (lv_at hl 2 rfl) ?_
  obtain ⟨q21, hq21, hf⟩ := mm_bd hf
  refine mm_Vi (rest := [.ref b]) hC hM (c_X8_putWayBack l hq21 hp_this_marsh_plans) q5_17 q1_5 ykX8_putWayBack q5_14 q5_15 q5_16 hp_this_marsh_plans.1 rfl ⟨rfl, rfl⟩ ⟨Nat.le_of_ble_eq_true rfl, Nat.le_of_ble_eq_true rfl⟩ rfl hl.1 rfl (Nat.le_of_ble_eq_true rfl) dX12_reverse_21 ⟨Nat.le_of_ble_eq_true rfl, Nat.le_of_ble_eq_true rfl⟩ (fun r w21 H locs hM hw => ?_)
  obtain ⟨hr, hn_this, hfr⟩ := hw
  rw [hr]
  have hc_this := hfr.keep hc_this (by omega)
  have hp_this_spareMoves := hfr.keep hp_this_spareMoves (by omega)
  have hc_this_marsh := hfr.keep hc_this_marsh (by omega)
  have hp_this_marsh_reeds := hp_this_marsh_reeds.keep hfr (by omega)
  have hp_this_marsh_fleet := hp_this_marsh_fleet.keep hfr (by omega)
  have hp_this_marsh_landings := hp_this_marsh_landings.keep hfr (by omega)
  have hp_this_snapshot := hp_this_snapshot.keep hfr (by omega)
  have hp_this_history := hp_this_history.keep hfr (by omega)
  have hp_this_ways := hp_this_ways.keep hfr (by omega)
  have hp_this_pairing := hp_this_pairing.keep hfr (by omega)
  have hp_this_reader := hp_this_reader.keep hfr (by omega)
  have hp_this_commandText := hp_this_commandText.keep hfr (by omega)
  have hp_this_line := hp_this_line.keep hfr (by omega)
  have hp_this_marsh_plans := hn_this
  have hF := hF.tr (hfr.wide (by omega) (by omega))
  obtain ⟨q24, hq24, hf⟩ := mm_bd hf
  refine mm_xVi (rest := []) hC hM (c_X12_settled l hfl hq24 ⟨hc_this, ⟨hc_this_marsh, hp_this_marsh_reeds, hp_this_marsh_fleet, hp_this_marsh_plans, hp_this_marsh_landings⟩, hp_this_snapshot, hp_this_history, hp_this_ways, hp_this_pairing, hp_this_reader, hp_this_commandText, hp_this_line, hp_this_spareMoves⟩) q3_201 q1_1 ykX12_settled q3_198 q3_200 qp_bbc23764 hc_this rfl ⟨rfl, rfl⟩ ⟨Nat.le_of_ble_eq_true rfl, Nat.le_of_ble_eq_true rfl⟩ rfl hl.1 rfl (Nat.le_of_ble_eq_true rfl) dX12_reverse_24 ⟨Nat.le_of_ble_eq_true rfl, Nat.le_of_ble_eq_true rfl⟩ (fun E ce qE w24 H locs hM hw hqE hv9 hcl9 => ?_) (fun r w24 H locs hM hw => ?_)
  · obtain ⟨hne, hE, hn_this, hfr⟩ := hw
    rw [if_neg hne] at hf
    obtain ⟨hc_this, hp_this_marsh, hp_this_snapshot, hp_this_history, hp_this_ways, hp_this_pairing, hp_this_reader, hp_this_commandText, hp_this_line, hp_this_spareMoves⟩ := hn_this
    obtain ⟨hc_this_marsh, hp_this_marsh_reeds, hp_this_marsh_fleet, hp_this_marsh_plans, hp_this_marsh_landings⟩ := hp_this_marsh
    have hF := hF.tr (hfr.wide (by omega) (by omega))
    cases hf
    exact hprop hM hqE hv9 hcl9 ⟨hne, hE, ⟨hc_this, ⟨hc_this_marsh, hp_this_marsh_reeds, hp_this_marsh_fleet, hp_this_marsh_plans, hp_this_marsh_landings⟩, hp_this_snapshot, hp_this_history, hp_this_ways, hp_this_pairing, hp_this_reader, hp_this_commandText, hp_this_line, hp_this_spareMoves⟩, hF⟩ (Nat.le_of_ble_eq_true rfl) (Nat.le_of_ble_eq_true rfl)
  obtain ⟨h0, hr, hn_this, hfr⟩ := hw
  rw [if_pos h0] at hf
  rw [hr]
  obtain ⟨hc_this, hp_this_marsh, hp_this_snapshot, hp_this_history, hp_this_ways, hp_this_pairing, hp_this_reader, hp_this_commandText, hp_this_line, hp_this_spareMoves⟩ := hn_this
  obtain ⟨hc_this_marsh, hp_this_marsh_reeds, hp_this_marsh_fleet, hp_this_marsh_plans, hp_this_marsh_landings⟩ := hp_this_marsh
  have hF := hF.tr (hfr.wide (by omega) (by omega))
  cases hf
  exact hret hM dX12_reverse_27 rfl ⟨rfl, rfl, ⟨hc_this, ⟨hc_this_marsh, hp_this_marsh_reeds, hp_this_marsh_fleet, hp_this_marsh_plans, hp_this_marsh_landings⟩, hp_this_snapshot, hp_this_history, hp_this_ways, hp_this_pairing, hp_this_reader, hp_this_commandText, hp_this_line, hp_this_spareMoves⟩, hF⟩ (Nat.le_of_ble_eq_true rfl) (Nat.le_of_ble_eq_true rfl)
def f_X12_reduce (K : Nat) (marsh_reeds_states : Nat → Int32) (marsh_reeds_count : Int32) (marsh_reeds_broken : Int32) (marsh_fleet_numbers : Nat → Int32) (marsh_fleet_cells : Nat → Int32) (marsh_fleet_fares : Nat → Int32) (marsh_fleet_count : Int32) (marsh_fleet_nextNumber : Int32) (marsh_fleet_total : Int32) (marsh_fleet_removedFares : Int32) (marsh_fleet_meetings : Int32) (marsh_plans_moves : Nat → Int32) (marsh_plans_lengths : Nat → Int32) (marsh_landings_cells : Nat → Int32) (marsh_landings_count : Int32) (marsh_fogSide : Int32) (history_slots : Nat → mm_MV) (history_free : Int32) (history_count : Int32) (x1 : Int32) : Option (Nat × Int32 × (Nat → Int32) × (Nat → Int32) × (Nat → mm_MV) × Int32 × Int32) := (f_X4_note history_slots history_free marsh_reeds_states marsh_reeds_count marsh_reeds_broken marsh_fleet_numbers marsh_fleet_cells marsh_fleet_fares marsh_fleet_count marsh_fleet_nextNumber marsh_fleet_total marsh_fleet_removedFares marsh_fleet_meetings marsh_plans_moves marsh_plans_lengths marsh_landings_cells marsh_landings_count marsh_fogSide).bind fun q8 => (f_X8_shorten K marsh_plans_moves marsh_plans_lengths x1).bind fun q20 => (f_X12_settled history_free history_count q20.1).bind fun q23 => if q23.1 = 0 then some (0, q23.2.1, q20.2.1, q20.2.2, q8, q23.2.2.1, q23.2.2.2) else some (q23.1, 0, q20.2.1, q20.2.2, q8, q23.2.2.1, q23.2.2.2)
set_option maxHeartbeats 4000000 in
set_option maxRecDepth 100000 in
theorem c_X12_reduce (l : Launch) (hfl : l.stackTraces = false) {G : mm_G} {K : Nat} {w : va_W} {sz : Nat} {b : Nat} {marsh_reeds_states : Nat → Int32} {marsh_reeds_count : Int32} {marsh_reeds_broken : Int32} {marsh_fleet_numbers : Nat → Int32} {marsh_fleet_cells : Nat → Int32} {marsh_fleet_fares : Nat → Int32} {marsh_fleet_count : Int32} {marsh_fleet_nextNumber : Int32} {marsh_fleet_total : Int32} {marsh_fleet_removedFares : Int32} {marsh_fleet_meetings : Int32} {marsh_plans_moves : Nat → Int32} {marsh_plans_lengths : Nat → Int32} {marsh_landings_cells : Nat → Int32} {marsh_landings_count : Int32} {marsh_fogSide : Int32} {snapshot_reeds_states : Nat → Int32} {snapshot_reeds_count : Int32} {snapshot_reeds_broken : Int32} {snapshot_fleet_numbers : Nat → Int32} {snapshot_fleet_cells : Nat → Int32} {snapshot_fleet_fares : Nat → Int32} {snapshot_fleet_count : Int32} {snapshot_fleet_nextNumber : Int32} {snapshot_fleet_total : Int32} {snapshot_fleet_removedFares : Int32} {snapshot_fleet_meetings : Int32} {snapshot_plans_moves : Nat → Int32} {snapshot_plans_lengths : Nat → Int32} {snapshot_landings_cells : Nat → Int32} {snapshot_landings_count : Int32} {snapshot_fogSide : Int32} {history_slots : Nat → mm_MV} {history_free : Int32} {history_count : Int32} {ways_tolls : Nat → Int32} {ways_queue : Nat → Int32} {ways_heap : Nat → Int32} {ways_heapSize : Int32} {ways_found : Nat → Int32} {ways_improved : Nat → Int32} {pairing_costs : Nat → Int32} {pairing_best : Nat → Int32} {reader_kinds : Nat → Int32} {reader_starts : Nat → Int32} {reader_count : Int32} {commandText_signs : Nat → Int32} {commandText_length : Int32} {line_signs : Nat → Int32} {line_length : Int32} {spareMoves : Nat → Int32} {snapshotTaken : Int32} {lastErrorPosition : Int32} {lastFailedCommand : Int32} {x1 : Int32} {X : Nat × Int32 × (Nat → Int32) × (Nat → Int32) × (Nat → mm_MV) × Int32 × Int32} (hf : f_X12_reduce K marsh_reeds_states marsh_reeds_count marsh_reeds_broken marsh_fleet_numbers marsh_fleet_cells marsh_fleet_fares marsh_fleet_count marsh_fleet_nextNumber marsh_fleet_total marsh_fleet_removedFares marsh_fleet_meetings marsh_plans_moves marsh_plans_lengths marsh_landings_cells marsh_landings_count marsh_fogSide history_slots history_free history_count x1 = some X) (hp_this : At12 G w b marsh_reeds_states marsh_reeds_count marsh_reeds_broken marsh_fleet_numbers marsh_fleet_cells marsh_fleet_fares marsh_fleet_count marsh_fleet_nextNumber marsh_fleet_total marsh_fleet_removedFares marsh_fleet_meetings marsh_plans_moves marsh_plans_lengths marsh_landings_cells marsh_landings_count marsh_fogSide snapshot_reeds_states snapshot_reeds_count snapshot_reeds_broken snapshot_fleet_numbers snapshot_fleet_cells snapshot_fleet_fares snapshot_fleet_count snapshot_fleet_nextNumber snapshot_fleet_total snapshot_fleet_removedFares snapshot_fleet_meetings snapshot_plans_moves snapshot_plans_lengths snapshot_landings_cells snapshot_landings_count snapshot_fogSide history_slots history_free history_count ways_tolls ways_queue ways_heap ways_heapSize ways_found ways_improved pairing_costs pairing_best reader_kinds reader_starts reader_count commandText_signs commandText_length line_signs line_length spareMoves snapshotTaken lastErrorPosition lastFailedCommand) : vx_Met l yX12_reduce (Cond.code yX12_reduce cX12_reduce 2 (some .int) :: gAll) ({ frames := 8, cells := 1, slots := 6, locals := 141 }) (va_Pc [.ref b, .int x1] (mm_Pre G w sz)) (mm_Qi G w sz (fun r w' => X.1 = 0 ∧ r = X.2.1 ∧ At12 G w' b marsh_reeds_states marsh_reeds_count marsh_reeds_broken marsh_fleet_numbers marsh_fleet_cells marsh_fleet_fares marsh_fleet_count marsh_fleet_nextNumber marsh_fleet_total marsh_fleet_removedFares marsh_fleet_meetings X.2.2.1 X.2.2.2.1 marsh_landings_cells marsh_landings_count marsh_fogSide snapshot_reeds_states snapshot_reeds_count snapshot_reeds_broken snapshot_fleet_numbers snapshot_fleet_cells snapshot_fleet_fares snapshot_fleet_count snapshot_fleet_nextNumber snapshot_fleet_total snapshot_fleet_removedFares snapshot_fleet_meetings snapshot_plans_moves snapshot_plans_lengths snapshot_landings_cells snapshot_landings_count snapshot_fogSide X.2.2.2.2.1 X.2.2.2.2.2.1 X.2.2.2.2.2.2 ways_tolls ways_queue ways_heap ways_heapSize ways_found ways_improved pairing_costs pairing_best reader_kinds reader_starts reader_count commandText_signs commandText_length line_signs line_length spareMoves snapshotTaken lastErrorPosition lastFailedCommand ∧ mm_fr w w' b (b + 152))) (mm_QX G w sz (fun E w' => X.1 ≠ 0 ∧ E = mm_ex X.1 ∧ At12 G w' b marsh_reeds_states marsh_reeds_count marsh_reeds_broken marsh_fleet_numbers marsh_fleet_cells marsh_fleet_fares marsh_fleet_count marsh_fleet_nextNumber marsh_fleet_total marsh_fleet_removedFares marsh_fleet_meetings X.2.2.1 X.2.2.2.1 marsh_landings_cells marsh_landings_count marsh_fogSide snapshot_reeds_states snapshot_reeds_count snapshot_reeds_broken snapshot_fleet_numbers snapshot_fleet_cells snapshot_fleet_fares snapshot_fleet_count snapshot_fleet_nextNumber snapshot_fleet_total snapshot_fleet_removedFares snapshot_fleet_meetings snapshot_plans_moves snapshot_plans_lengths snapshot_landings_cells snapshot_landings_count snapshot_fogSide X.2.2.2.2.1 X.2.2.2.2.2.1 X.2.2.2.2.2.2 ways_tolls ways_queue ways_heap ways_heapSize ways_found ways_improved pairing_costs pairing_best reader_kinds reader_starts reader_count commandText_signs commandText_length line_signs line_length spareMoves snapshotTaken lastErrorPosition lastFailedCommand ∧ mm_fr w w' b (b + 152))) 1 6 (va_A w sz) := by
  refine mm_xheadI hfl [.ref b, .int x1] (by decide +kernel) rfl (Nat.le_of_ble_eq_true rfl) rfl rfl ?_
  intro p e s m args below meth c A Q hsz hC hM hret hprop hthrow ls hl
  have hx := hC.1.1
  have hb := hC.1.2.1
  have hl : lv_has ls 2 [(0, .ref b), (1, .int x1)] := hl
  have hF : mm_fr w w b (b + 152) := mm_fr.rf
  rw [f_X12_reduce] at hf
  obtain ⟨hc_this, hp_this_marsh, hp_this_snapshot, hp_this_history, hp_this_ways, hp_this_pairing, hp_this_reader, hp_this_commandText, hp_this_line, hp_this_spareMoves⟩ := hp_this
  obtain ⟨hc_this_marsh, hp_this_marsh_reeds, hp_this_marsh_fleet, hp_this_marsh_plans, hp_this_marsh_landings⟩ := hp_this_marsh
  refine lv_aload_n hx hb dX12_reduce_0 rfl (lv_at hl 0 rfl) ?_
  refine mm_get hC hM (k := 2) hc_this rfl inAX12 (by decide) q2_18 rfl dX12_reduce_1 ?_
  refine lv_aload_n hx hb dX12_reduce_4 rfl (lv_at hl 0 rfl) ?_
  refine mm_get hC hM (k := 0) hc_this rfl inAX12 (by decide) q2_16 rfl dX12_reduce_5 ?_
  obtain ⟨q8, hq8, hf⟩ := mm_bd hf
  refine mm_Vv (rest := []) hC hM (c_X4_note l hq8 hp_this_history ⟨hc_this_marsh, hp_this_marsh_reeds, hp_this_marsh_fleet, hp_this_marsh_plans, hp_this_marsh_landings⟩ (by omega)) q3_178 q1_7 ykX4_note q3_175 q3_176 q3_177 hp_this_history.1 rfl ⟨rfl, rfl⟩ ⟨Nat.le_of_ble_eq_true rfl, Nat.le_of_ble_eq_true rfl⟩ rfl hl.1 rfl (Nat.le_of_ble_eq_true rfl) dX12_reduce_8 ⟨Nat.le_of_ble_eq_true rfl, Nat.le_of_ble_eq_true rfl⟩ (fun w8 H locs hM hw => ?_)
  obtain ⟨hn_this, hfr⟩ := hw
  have hc_this := hfr.keep hc_this (by omega)
  have hp_this_spareMoves := hfr.keep hp_this_spareMoves (by omega)
  have hc_this_marsh := hfr.keep hc_this_marsh (by omega)
  have hp_this_marsh_reeds := hp_this_marsh_reeds.keep hfr (by omega)
  have hp_this_marsh_fleet := hp_this_marsh_fleet.keep hfr (by omega)
  have hp_this_marsh_plans := hp_this_marsh_plans.keep hfr (by omega)
  have hp_this_marsh_landings := hp_this_marsh_landings.keep hfr (by omega)
  have hp_this_snapshot := hp_this_snapshot.keep hfr (by omega)
  have hp_this_ways := hp_this_ways.keep hfr (by omega)
  have hp_this_pairing := hp_this_pairing.keep hfr (by omega)
  have hp_this_reader := hp_this_reader.keep hfr (by omega)
  have hp_this_commandText := hp_this_commandText.keep hfr (by omega)
  have hp_this_line := hp_this_line.keep hfr (by omega)
  have hp_this_history := hn_this
  have hF := hF.tr (hfr.wide (by omega) (by omega))
  refine lv_aload_n hx hb dX12_reduce_11 rfl (lv_at hl 0 rfl) ?_
  refine lv_aload_n hx hb dX12_reduce_12 rfl (lv_at hl 0 rfl) ?_
  refine mm_get hC hM (k := 0) hc_this rfl inAX12 (by decide) q2_16 rfl dX12_reduce_13 ?_
  refine mm_get hC hM (k := 2) hc_this_marsh rfl inAX6 (by decide) q1_144 rfl dX12_reduce_16 ?_
  refine lv_iload_n hx hb dX12_reduce_19 rfl (lv_at hl 1 rfl) ?_
  obtain ⟨q20, hq20, hf⟩ := mm_bd hf
  refine mm_Vi (rest := [.ref b]) hC hM (c_X8_shorten l hq20 hp_this_marsh_plans) q5_28 q1_5 ykX8_shorten q5_25 q5_26 q5_27 hp_this_marsh_plans.1 rfl ⟨rfl, rfl⟩ ⟨Nat.le_of_ble_eq_true rfl, Nat.le_of_ble_eq_true rfl⟩ rfl hl.1 rfl (Nat.le_of_ble_eq_true rfl) dX12_reduce_20 ⟨Nat.le_of_ble_eq_true rfl, Nat.le_of_ble_eq_true rfl⟩ (fun r w20 H locs hM hw => ?_)
  obtain ⟨hr, hn_this, hfr⟩ := hw
  rw [hr]
  have hc_this := hfr.keep hc_this (by omega)
  have hp_this_spareMoves := hfr.keep hp_this_spareMoves (by omega)
  have hc_this_marsh := hfr.keep hc_this_marsh (by omega)
  have hp_this_marsh_reeds := hp_this_marsh_reeds.keep hfr (by omega)
  have hp_this_marsh_fleet := hp_this_marsh_fleet.keep hfr (by omega)
  have hp_this_marsh_landings := hp_this_marsh_landings.keep hfr (by omega)
  have hp_this_snapshot := hp_this_snapshot.keep hfr (by omega)
  have hp_this_history := hp_this_history.keep hfr (by omega)
  have hp_this_ways := hp_this_ways.keep hfr (by omega)
  have hp_this_pairing := hp_this_pairing.keep hfr (by omega)
  have hp_this_reader := hp_this_reader.keep hfr (by omega)
  have hp_this_commandText := hp_this_commandText.keep hfr (by omega)
  have hp_this_line := hp_this_line.keep hfr (by omega)
  have hp_this_marsh_plans := hn_this
  have hF := hF.tr (hfr.wide (by omega) (by omega))
  obtain ⟨q23, hq23, hf⟩ := mm_bd hf
  refine mm_xVi (rest := []) hC hM (c_X12_settled l hfl hq23 ⟨hc_this, ⟨hc_this_marsh, hp_this_marsh_reeds, hp_this_marsh_fleet, hp_this_marsh_plans, hp_this_marsh_landings⟩, hp_this_snapshot, hp_this_history, hp_this_ways, hp_this_pairing, hp_this_reader, hp_this_commandText, hp_this_line, hp_this_spareMoves⟩) q3_201 q1_1 ykX12_settled q3_198 q3_200 qp_bbc23764 hc_this rfl ⟨rfl, rfl⟩ ⟨Nat.le_of_ble_eq_true rfl, Nat.le_of_ble_eq_true rfl⟩ rfl hl.1 rfl (Nat.le_of_ble_eq_true rfl) dX12_reduce_23 ⟨Nat.le_of_ble_eq_true rfl, Nat.le_of_ble_eq_true rfl⟩ (fun E ce qE w23 H locs hM hw hqE hv9 hcl9 => ?_) (fun r w23 H locs hM hw => ?_)
  · obtain ⟨hne, hE, hn_this, hfr⟩ := hw
    rw [if_neg hne] at hf
    obtain ⟨hc_this, hp_this_marsh, hp_this_snapshot, hp_this_history, hp_this_ways, hp_this_pairing, hp_this_reader, hp_this_commandText, hp_this_line, hp_this_spareMoves⟩ := hn_this
    obtain ⟨hc_this_marsh, hp_this_marsh_reeds, hp_this_marsh_fleet, hp_this_marsh_plans, hp_this_marsh_landings⟩ := hp_this_marsh
    have hF := hF.tr (hfr.wide (by omega) (by omega))
    cases hf
    exact hprop hM hqE hv9 hcl9 ⟨hne, hE, ⟨hc_this, ⟨hc_this_marsh, hp_this_marsh_reeds, hp_this_marsh_fleet, hp_this_marsh_plans, hp_this_marsh_landings⟩, hp_this_snapshot, hp_this_history, hp_this_ways, hp_this_pairing, hp_this_reader, hp_this_commandText, hp_this_line, hp_this_spareMoves⟩, hF⟩ (Nat.le_of_ble_eq_true rfl) (Nat.le_of_ble_eq_true rfl)
  obtain ⟨h0, hr, hn_this, hfr⟩ := hw
  rw [if_pos h0] at hf
  rw [hr]
  obtain ⟨hc_this, hp_this_marsh, hp_this_snapshot, hp_this_history, hp_this_ways, hp_this_pairing, hp_this_reader, hp_this_commandText, hp_this_line, hp_this_spareMoves⟩ := hn_this
  obtain ⟨hc_this_marsh, hp_this_marsh_reeds, hp_this_marsh_fleet, hp_this_marsh_plans, hp_this_marsh_landings⟩ := hp_this_marsh
  have hF := hF.tr (hfr.wide (by omega) (by omega))
  cases hf
  exact hret hM dX12_reduce_26 rfl ⟨rfl, rfl, ⟨hc_this, ⟨hc_this_marsh, hp_this_marsh_reeds, hp_this_marsh_fleet, hp_this_marsh_plans, hp_this_marsh_landings⟩, hp_this_snapshot, hp_this_history, hp_this_ways, hp_this_pairing, hp_this_reader, hp_this_commandText, hp_this_line, hp_this_spareMoves⟩, hF⟩ (Nat.le_of_ble_eq_true rfl) (Nat.le_of_ble_eq_true rfl)
def f_X12_existingPlan (x0 : Int32) : Option (Nat × Int32) := (f_X12_isPlan x0).bind fun q1 => if q1 = 0 then some (1, 0) else some (0, x0)
set_option maxHeartbeats 4000000 in
set_option maxRecDepth 100000 in
theorem c_X12_existingPlan (l : Launch) (hfl : l.stackTraces = false) {G : mm_G} {w : va_W} {sz : Nat} {x0 : Int32} {X : Nat × Int32} (hf : f_X12_existingPlan x0 = some X) : vx_Met l yX12_existingPlan (Cond.code yX12_existingPlan cX12_existingPlan 1 (some .int) :: gAll) ({ frames := 7, cells := 1, slots := 6, locals := 120 }) (va_Pc [.int x0] (mm_Pre G w sz)) (mm_Qi G w sz (fun r w' => X.1 = 0 ∧ r = X.2 ∧ w' = w)) (mm_QX G w sz (fun E w' => X.1 ≠ 0 ∧ E = mm_ex X.1 ∧ w' = w)) 1 6 (va_A w sz) := by
  refine mm_xheadI hfl [.int x0] (by decide +kernel) rfl (Nat.le_of_ble_eq_true rfl) rfl rfl ?_
  intro p e s m args below meth c A Q hsz hC hM hret hprop hthrow ls hl
  have hx := hC.1.1
  have hb := hC.1.2.1
  have hl : lv_has ls 1 [(0, .int x0)] := hl
  rw [f_X12_existingPlan] at hf
  refine lv_iload_n hx hb dX12_existingPlan_0 rfl (lv_at hl 0 rfl) ?_
  obtain ⟨q1, hq1, hf⟩ := mm_bd hf
  refine mm_Si (rest := []) hC hM (c_X12_isPlan l hq1) q4_211 q1_1 ykX12_isPlan q5_39 q4_210 ⟨rfl, rfl⟩ ⟨Nat.le_of_ble_eq_true rfl, Nat.le_of_ble_eq_true rfl⟩ rfl hl.1 rfl (Nat.le_of_ble_eq_true rfl) dX12_existingPlan_1 ⟨Nat.le_of_ble_eq_true rfl, Nat.le_of_ble_eq_true rfl⟩ (fun r w1 H locs hM hw => ?_)
  obtain ⟨hr, hw⟩ := hw
  rw [hr]
  rw [hw] at hM
  refine lv_if_ne (tgt := 15) hx hb dX12_existingPlan_4 (by decide) (fun hcd => ?_) (fun hcd => ?_)
  · rw [if_neg hcd] at hf
    refine lv_iload_n hx hb dX12_existingPlan_15 rfl (lv_at hl 0 rfl) ?_
    cases hf
    exact hret hM dX12_existingPlan_16 rfl ⟨rfl, rfl, rfl⟩ (Nat.le_of_ble_eq_true rfl) (Nat.le_of_ble_eq_true rfl)
  · rw [if_pos hcd] at hf
    cases hf
    exact hthrow (names := ["java/lang/RuntimeException", "java/lang/Exception"]) hM hl.1 (by decide +kernel) (by decide +kernel) q3_202 q1_16 vxa_1 vxb_1 dX12_existingPlan_7 dX12_existingPlan_10 dX12_existingPlan_11 dX12_existingPlan_14 (by decide) (Nat.le_of_ble_eq_true rfl) (Nat.le_of_ble_eq_true rfl) (Nat.le_of_ble_eq_true rfl) ⟨(by simp), rfl, rfl⟩
def f_X12_reducedLength (K : Nat) (marsh_plans_moves : Nat → Int32) (marsh_plans_lengths : Nat → Int32) (spareMoves : Nat → Int32) (x1 : Int32) : Option (Nat × Int32 × (Nat → Int32)) := (f_X12_existingPlan x1).bind fun q8 => if q8.1 = 0 then (f_X8_lengthByPairs K marsh_plans_moves marsh_plans_lengths spareMoves q8.2).bind fun q15 => some (0, q15.1, q15.2) else some (q8.1, 0, spareMoves)
set_option maxHeartbeats 4000000 in
set_option maxRecDepth 100000 in
theorem c_X12_reducedLength (l : Launch) (hfl : l.stackTraces = false) {G : mm_G} {K : Nat} {w : va_W} {sz : Nat} {b : Nat} {marsh_reeds_states : Nat → Int32} {marsh_reeds_count : Int32} {marsh_reeds_broken : Int32} {marsh_fleet_numbers : Nat → Int32} {marsh_fleet_cells : Nat → Int32} {marsh_fleet_fares : Nat → Int32} {marsh_fleet_count : Int32} {marsh_fleet_nextNumber : Int32} {marsh_fleet_total : Int32} {marsh_fleet_removedFares : Int32} {marsh_fleet_meetings : Int32} {marsh_plans_moves : Nat → Int32} {marsh_plans_lengths : Nat → Int32} {marsh_landings_cells : Nat → Int32} {marsh_landings_count : Int32} {marsh_fogSide : Int32} {snapshot_reeds_states : Nat → Int32} {snapshot_reeds_count : Int32} {snapshot_reeds_broken : Int32} {snapshot_fleet_numbers : Nat → Int32} {snapshot_fleet_cells : Nat → Int32} {snapshot_fleet_fares : Nat → Int32} {snapshot_fleet_count : Int32} {snapshot_fleet_nextNumber : Int32} {snapshot_fleet_total : Int32} {snapshot_fleet_removedFares : Int32} {snapshot_fleet_meetings : Int32} {snapshot_plans_moves : Nat → Int32} {snapshot_plans_lengths : Nat → Int32} {snapshot_landings_cells : Nat → Int32} {snapshot_landings_count : Int32} {snapshot_fogSide : Int32} {history_slots : Nat → mm_MV} {history_free : Int32} {history_count : Int32} {ways_tolls : Nat → Int32} {ways_queue : Nat → Int32} {ways_heap : Nat → Int32} {ways_heapSize : Int32} {ways_found : Nat → Int32} {ways_improved : Nat → Int32} {pairing_costs : Nat → Int32} {pairing_best : Nat → Int32} {reader_kinds : Nat → Int32} {reader_starts : Nat → Int32} {reader_count : Int32} {commandText_signs : Nat → Int32} {commandText_length : Int32} {line_signs : Nat → Int32} {line_length : Int32} {spareMoves : Nat → Int32} {snapshotTaken : Int32} {lastErrorPosition : Int32} {lastFailedCommand : Int32} {x1 : Int32} {X : Nat × Int32 × (Nat → Int32)} (hf : f_X12_reducedLength K marsh_plans_moves marsh_plans_lengths spareMoves x1 = some X) (hp_this : At12 G w b marsh_reeds_states marsh_reeds_count marsh_reeds_broken marsh_fleet_numbers marsh_fleet_cells marsh_fleet_fares marsh_fleet_count marsh_fleet_nextNumber marsh_fleet_total marsh_fleet_removedFares marsh_fleet_meetings marsh_plans_moves marsh_plans_lengths marsh_landings_cells marsh_landings_count marsh_fogSide snapshot_reeds_states snapshot_reeds_count snapshot_reeds_broken snapshot_fleet_numbers snapshot_fleet_cells snapshot_fleet_fares snapshot_fleet_count snapshot_fleet_nextNumber snapshot_fleet_total snapshot_fleet_removedFares snapshot_fleet_meetings snapshot_plans_moves snapshot_plans_lengths snapshot_landings_cells snapshot_landings_count snapshot_fogSide history_slots history_free history_count ways_tolls ways_queue ways_heap ways_heapSize ways_found ways_improved pairing_costs pairing_best reader_kinds reader_starts reader_count commandText_signs commandText_length line_signs line_length spareMoves snapshotTaken lastErrorPosition lastFailedCommand) : vx_Met l yX12_reducedLength (Cond.code yX12_reducedLength cX12_reducedLength 2 (some .int) :: gAll) ({ frames := 8, cells := 1, slots := 6, locals := 140 }) (va_Pc [.ref b, .int x1] (mm_Pre G w sz)) (mm_Qi G w sz (fun r w' => X.1 = 0 ∧ r = X.2.1 ∧ At12 G w' b marsh_reeds_states marsh_reeds_count marsh_reeds_broken marsh_fleet_numbers marsh_fleet_cells marsh_fleet_fares marsh_fleet_count marsh_fleet_nextNumber marsh_fleet_total marsh_fleet_removedFares marsh_fleet_meetings marsh_plans_moves marsh_plans_lengths marsh_landings_cells marsh_landings_count marsh_fogSide snapshot_reeds_states snapshot_reeds_count snapshot_reeds_broken snapshot_fleet_numbers snapshot_fleet_cells snapshot_fleet_fares snapshot_fleet_count snapshot_fleet_nextNumber snapshot_fleet_total snapshot_fleet_removedFares snapshot_fleet_meetings snapshot_plans_moves snapshot_plans_lengths snapshot_landings_cells snapshot_landings_count snapshot_fogSide history_slots history_free history_count ways_tolls ways_queue ways_heap ways_heapSize ways_found ways_improved pairing_costs pairing_best reader_kinds reader_starts reader_count commandText_signs commandText_length line_signs line_length X.2.2 snapshotTaken lastErrorPosition lastFailedCommand ∧ mm_fr w w' b (b + 152))) (mm_QX G w sz (fun E w' => X.1 ≠ 0 ∧ E = mm_ex X.1 ∧ At12 G w' b marsh_reeds_states marsh_reeds_count marsh_reeds_broken marsh_fleet_numbers marsh_fleet_cells marsh_fleet_fares marsh_fleet_count marsh_fleet_nextNumber marsh_fleet_total marsh_fleet_removedFares marsh_fleet_meetings marsh_plans_moves marsh_plans_lengths marsh_landings_cells marsh_landings_count marsh_fogSide snapshot_reeds_states snapshot_reeds_count snapshot_reeds_broken snapshot_fleet_numbers snapshot_fleet_cells snapshot_fleet_fares snapshot_fleet_count snapshot_fleet_nextNumber snapshot_fleet_total snapshot_fleet_removedFares snapshot_fleet_meetings snapshot_plans_moves snapshot_plans_lengths snapshot_landings_cells snapshot_landings_count snapshot_fogSide history_slots history_free history_count ways_tolls ways_queue ways_heap ways_heapSize ways_found ways_improved pairing_costs pairing_best reader_kinds reader_starts reader_count commandText_signs commandText_length line_signs line_length X.2.2 snapshotTaken lastErrorPosition lastFailedCommand ∧ mm_fr w w' b (b + 152))) 1 6 (va_A w sz) := by
  refine mm_xheadI hfl [.ref b, .int x1] (by decide +kernel) rfl (Nat.le_of_ble_eq_true rfl) rfl rfl ?_
  intro p e s m args below meth c A Q hsz hC hM hret hprop hthrow ls hl
  have hx := hC.1.1
  have hb := hC.1.2.1
  have hl : lv_has ls 2 [(0, .ref b), (1, .int x1)] := hl
  have hF : mm_fr w w b (b + 152) := mm_fr.rf
  rw [f_X12_reducedLength] at hf
  obtain ⟨hc_this, hp_this_marsh, hp_this_snapshot, hp_this_history, hp_this_ways, hp_this_pairing, hp_this_reader, hp_this_commandText, hp_this_line, hp_this_spareMoves⟩ := hp_this
  refine lv_aload_n hx hb dX12_reducedLength_0 rfl (lv_at hl 0 rfl) ?_
  refine mm_get hC hM (k := 0) hc_this rfl inAX12 (by decide) q2_16 rfl dX12_reducedLength_1 ?_
  refine mm_get hC hM (k := 2) hp_this_marsh.1 rfl inAX6 (by decide) q1_144 rfl dX12_reducedLength_4 ?_
  refine lv_iload_n hx hb dX12_reducedLength_7 rfl (lv_at hl 1 rfl) ?_
  obtain ⟨q8, hq8, hf⟩ := mm_bd hf
  refine mm_xSi (rest := [.ref (b + 1 + 7)]) hC hM (c_X12_existingPlan l hfl hq8) q5_38 q1_1 ykX12_existingPlan q5_36 q5_37 ⟨rfl, rfl⟩ ⟨Nat.le_of_ble_eq_true rfl, Nat.le_of_ble_eq_true rfl⟩ rfl hl.1 rfl (Nat.le_of_ble_eq_true rfl) dX12_reducedLength_8 ⟨Nat.le_of_ble_eq_true rfl, Nat.le_of_ble_eq_true rfl⟩ (fun E ce qE w8 H locs hM hw hqE hv9 hcl9 => ?_) (fun r w8 H locs hM hw => ?_)
  · obtain ⟨hne, hE, hw⟩ := hw
    rw [if_neg hne] at hf
    rw [hw] at hM
    cases hf
    exact hprop hM hqE hv9 hcl9 ⟨hne, hE, ⟨hc_this, hp_this_marsh, hp_this_snapshot, hp_this_history, hp_this_ways, hp_this_pairing, hp_this_reader, hp_this_commandText, hp_this_line, hp_this_spareMoves⟩, hF⟩ (Nat.le_of_ble_eq_true rfl) (Nat.le_of_ble_eq_true rfl)
  obtain ⟨h0, hr, hw⟩ := hw
  rw [if_pos h0] at hf
  rw [hr]
  rw [hw] at hM
  refine lv_aload_n hx hb dX12_reducedLength_11 rfl (lv_at hl 0 rfl) ?_
  refine mm_get hC hM (k := 8) hc_this rfl inAX12 (by decide) q2_24 rfl dX12_reducedLength_12 ?_
  obtain ⟨q15, hq15, hf⟩ := mm_bd hf
  refine mm_Vi (rest := []) hC hM (c_X8_lengthByPairs l hq15 (hp_this_marsh.2.2.2.1) hp_this_spareMoves (by omega)) q2_232 q1_5 ykX8_lengthByPairs q2_229 q2_230 q2_231 (hp_this_marsh.2.2.2.1).1 rfl ⟨rfl, rfl⟩ ⟨Nat.le_of_ble_eq_true rfl, Nat.le_of_ble_eq_true rfl⟩ rfl hl.1 rfl (Nat.le_of_ble_eq_true rfl) dX12_reducedLength_15 ⟨Nat.le_of_ble_eq_true rfl, Nat.le_of_ble_eq_true rfl⟩ (fun r w15 H locs hM hw => ?_)
  obtain ⟨hr, hn_p2, hfr⟩ := hw
  rw [hr]
  have hc_this := hfr.keep hc_this (by omega)
  have hp_this_marsh := hp_this_marsh.keep hfr (by omega)
  have hp_this_snapshot := hp_this_snapshot.keep hfr (by omega)
  have hp_this_history := hp_this_history.keep hfr (by omega)
  have hp_this_ways := hp_this_ways.keep hfr (by omega)
  have hp_this_pairing := hp_this_pairing.keep hfr (by omega)
  have hp_this_reader := hp_this_reader.keep hfr (by omega)
  have hp_this_commandText := hp_this_commandText.keep hfr (by omega)
  have hp_this_line := hp_this_line.keep hfr (by omega)
  have hp_this_spareMoves := hn_p2
  have hF := hF.tr (hfr.wide (by omega) (by omega))
  cases hf
  exact hret hM dX12_reducedLength_18 rfl ⟨rfl, rfl, ⟨hc_this, hp_this_marsh, hp_this_snapshot, hp_this_history, hp_this_ways, hp_this_pairing, hp_this_reader, hp_this_commandText, hp_this_line, hp_this_spareMoves⟩, hF⟩ (Nat.le_of_ble_eq_true rfl) (Nat.le_of_ble_eq_true rfl)
def f_X12_planLength (marsh_plans_lengths : Nat → Int32) (x1 : Int32) : Option (Nat × Int32) := (f_X12_existingPlan x1).bind fun q11 => if q11.1 = 0 then mm_g (mm_ck q11.2 6) (some (0, (marsh_plans_lengths q11.2.toNatClampNeg))) else some (q11.1, 0)
set_option maxHeartbeats 4000000 in
set_option maxRecDepth 100000 in
theorem c_X12_planLength (l : Launch) (hfl : l.stackTraces = false) {G : mm_G} {w : va_W} {sz : Nat} {b : Nat} {marsh_reeds_states : Nat → Int32} {marsh_reeds_count : Int32} {marsh_reeds_broken : Int32} {marsh_fleet_numbers : Nat → Int32} {marsh_fleet_cells : Nat → Int32} {marsh_fleet_fares : Nat → Int32} {marsh_fleet_count : Int32} {marsh_fleet_nextNumber : Int32} {marsh_fleet_total : Int32} {marsh_fleet_removedFares : Int32} {marsh_fleet_meetings : Int32} {marsh_plans_moves : Nat → Int32} {marsh_plans_lengths : Nat → Int32} {marsh_landings_cells : Nat → Int32} {marsh_landings_count : Int32} {marsh_fogSide : Int32} {snapshot_reeds_states : Nat → Int32} {snapshot_reeds_count : Int32} {snapshot_reeds_broken : Int32} {snapshot_fleet_numbers : Nat → Int32} {snapshot_fleet_cells : Nat → Int32} {snapshot_fleet_fares : Nat → Int32} {snapshot_fleet_count : Int32} {snapshot_fleet_nextNumber : Int32} {snapshot_fleet_total : Int32} {snapshot_fleet_removedFares : Int32} {snapshot_fleet_meetings : Int32} {snapshot_plans_moves : Nat → Int32} {snapshot_plans_lengths : Nat → Int32} {snapshot_landings_cells : Nat → Int32} {snapshot_landings_count : Int32} {snapshot_fogSide : Int32} {history_slots : Nat → mm_MV} {history_free : Int32} {history_count : Int32} {ways_tolls : Nat → Int32} {ways_queue : Nat → Int32} {ways_heap : Nat → Int32} {ways_heapSize : Int32} {ways_found : Nat → Int32} {ways_improved : Nat → Int32} {pairing_costs : Nat → Int32} {pairing_best : Nat → Int32} {reader_kinds : Nat → Int32} {reader_starts : Nat → Int32} {reader_count : Int32} {commandText_signs : Nat → Int32} {commandText_length : Int32} {line_signs : Nat → Int32} {line_length : Int32} {spareMoves : Nat → Int32} {snapshotTaken : Int32} {lastErrorPosition : Int32} {lastFailedCommand : Int32} {x1 : Int32} {X : Nat × Int32} (hf : f_X12_planLength marsh_plans_lengths x1 = some X) (hp_this : At12 G w b marsh_reeds_states marsh_reeds_count marsh_reeds_broken marsh_fleet_numbers marsh_fleet_cells marsh_fleet_fares marsh_fleet_count marsh_fleet_nextNumber marsh_fleet_total marsh_fleet_removedFares marsh_fleet_meetings marsh_plans_moves marsh_plans_lengths marsh_landings_cells marsh_landings_count marsh_fogSide snapshot_reeds_states snapshot_reeds_count snapshot_reeds_broken snapshot_fleet_numbers snapshot_fleet_cells snapshot_fleet_fares snapshot_fleet_count snapshot_fleet_nextNumber snapshot_fleet_total snapshot_fleet_removedFares snapshot_fleet_meetings snapshot_plans_moves snapshot_plans_lengths snapshot_landings_cells snapshot_landings_count snapshot_fogSide history_slots history_free history_count ways_tolls ways_queue ways_heap ways_heapSize ways_found ways_improved pairing_costs pairing_best reader_kinds reader_starts reader_count commandText_signs commandText_length line_signs line_length spareMoves snapshotTaken lastErrorPosition lastFailedCommand) : vx_Met l yX12_planLength (Cond.code yX12_planLength cX12_planLength 2 (some .int) :: gAll) ({ frames := 8, cells := 1, slots := 6, locals := 140 }) (va_Pc [.ref b, .int x1] (mm_Pre G w sz)) (mm_Qi G w sz (fun r w' => X.1 = 0 ∧ r = X.2 ∧ w' = w)) (mm_QX G w sz (fun E w' => X.1 ≠ 0 ∧ E = mm_ex X.1 ∧ w' = w)) 1 6 (va_A w sz) := by
  refine mm_xheadI hfl [.ref b, .int x1] (by decide +kernel) rfl (Nat.le_of_ble_eq_true rfl) rfl rfl ?_
  intro p e s m args below meth c A Q hsz hC hM hret hprop hthrow ls hl
  have hx := hC.1.1
  have hb := hC.1.2.1
  have hl : lv_has ls 2 [(0, .ref b), (1, .int x1)] := hl
  rw [f_X12_planLength] at hf
  refine lv_aload_n hx hb dX12_planLength_0 rfl (lv_at hl 0 rfl) ?_
  refine mm_get hC hM (k := 0) hp_this.1 rfl inAX12 (by decide) q2_16 rfl dX12_planLength_1 ?_
  refine mm_get hC hM (k := 2) (hp_this.2.1).1 rfl inAX6 (by decide) q1_144 rfl dX12_planLength_4 ?_
  refine mm_get hC hM (k := 1) ((hp_this.2.1).2.2.2.1).1 rfl inAX8 (by decide) q1_117 rfl dX12_planLength_7 ?_
  refine lv_iload_n hx hb dX12_planLength_10 rfl (lv_at hl 1 rfl) ?_
  obtain ⟨q11, hq11, hf⟩ := mm_bd hf
  refine mm_xSi (rest := [.ref (b + 1 + 7 + 2)]) hC hM (c_X12_existingPlan l hfl hq11) q5_38 q1_1 ykX12_existingPlan q5_36 q5_37 ⟨rfl, rfl⟩ ⟨Nat.le_of_ble_eq_true rfl, Nat.le_of_ble_eq_true rfl⟩ rfl hl.1 rfl (Nat.le_of_ble_eq_true rfl) dX12_planLength_11 ⟨Nat.le_of_ble_eq_true rfl, Nat.le_of_ble_eq_true rfl⟩ (fun E ce qE w11 H locs hM hw hqE hv9 hcl9 => ?_) (fun r w11 H locs hM hw => ?_)
  · obtain ⟨hne, hE, hw⟩ := hw
    rw [if_neg hne] at hf
    rw [hw] at hM
    cases hf
    exact hprop hM hqE hv9 hcl9 ⟨hne, hE, rfl⟩ (Nat.le_of_ble_eq_true rfl) (Nat.le_of_ble_eq_true rfl)
  obtain ⟨h0, hr, hw⟩ := hw
  rw [if_pos h0] at hf
  rw [hr]
  rw [hw] at hM
  obtain ⟨hg14, hf⟩ := mm_gd hf
  refine mm_iald hC hM (((hp_this.2.1).2.2.2.1).2.2) hg14 dX12_planLength_14 ?_
  cases hf
  exact hret hM dX12_planLength_15 rfl ⟨rfl, rfl, rfl⟩ (Nat.le_of_ble_eq_true rfl) (Nat.le_of_ble_eq_true rfl)
def f_X12_moveAt (marsh_plans_moves : Nat → Int32) (marsh_plans_lengths : Nat → Int32) (x1 : Int32) (x2 : Int32) : Option (Nat × Int32) := (f_X12_existingPlan x1).bind fun q1 => if q1.1 = 0 then if x2 < 0 then some (2, 0) else mm_g (mm_ck q1.2 6) (if x2 < (marsh_plans_lengths q1.2.toNatClampNeg) then (f_X8_moveIn marsh_plans_moves q1.2 x2).bind fun q42 => (f_X12_letter q42).bind fun q45 => mm_g (decide (vp_nar .char q45 = q45)) (some (0, q45)) else some (2, 0)) else some (q1.1, 0)
set_option maxHeartbeats 4000000 in
set_option maxRecDepth 100000 in
theorem c_X12_moveAt (l : Launch) (hfl : l.stackTraces = false) {G : mm_G} {w : va_W} {sz : Nat} {b : Nat} {marsh_reeds_states : Nat → Int32} {marsh_reeds_count : Int32} {marsh_reeds_broken : Int32} {marsh_fleet_numbers : Nat → Int32} {marsh_fleet_cells : Nat → Int32} {marsh_fleet_fares : Nat → Int32} {marsh_fleet_count : Int32} {marsh_fleet_nextNumber : Int32} {marsh_fleet_total : Int32} {marsh_fleet_removedFares : Int32} {marsh_fleet_meetings : Int32} {marsh_plans_moves : Nat → Int32} {marsh_plans_lengths : Nat → Int32} {marsh_landings_cells : Nat → Int32} {marsh_landings_count : Int32} {marsh_fogSide : Int32} {snapshot_reeds_states : Nat → Int32} {snapshot_reeds_count : Int32} {snapshot_reeds_broken : Int32} {snapshot_fleet_numbers : Nat → Int32} {snapshot_fleet_cells : Nat → Int32} {snapshot_fleet_fares : Nat → Int32} {snapshot_fleet_count : Int32} {snapshot_fleet_nextNumber : Int32} {snapshot_fleet_total : Int32} {snapshot_fleet_removedFares : Int32} {snapshot_fleet_meetings : Int32} {snapshot_plans_moves : Nat → Int32} {snapshot_plans_lengths : Nat → Int32} {snapshot_landings_cells : Nat → Int32} {snapshot_landings_count : Int32} {snapshot_fogSide : Int32} {history_slots : Nat → mm_MV} {history_free : Int32} {history_count : Int32} {ways_tolls : Nat → Int32} {ways_queue : Nat → Int32} {ways_heap : Nat → Int32} {ways_heapSize : Int32} {ways_found : Nat → Int32} {ways_improved : Nat → Int32} {pairing_costs : Nat → Int32} {pairing_best : Nat → Int32} {reader_kinds : Nat → Int32} {reader_starts : Nat → Int32} {reader_count : Int32} {commandText_signs : Nat → Int32} {commandText_length : Int32} {line_signs : Nat → Int32} {line_length : Int32} {spareMoves : Nat → Int32} {snapshotTaken : Int32} {lastErrorPosition : Int32} {lastFailedCommand : Int32} {x1 : Int32} {x2 : Int32} {X : Nat × Int32} (hf : f_X12_moveAt marsh_plans_moves marsh_plans_lengths x1 x2 = some X) (hp_this : At12 G w b marsh_reeds_states marsh_reeds_count marsh_reeds_broken marsh_fleet_numbers marsh_fleet_cells marsh_fleet_fares marsh_fleet_count marsh_fleet_nextNumber marsh_fleet_total marsh_fleet_removedFares marsh_fleet_meetings marsh_plans_moves marsh_plans_lengths marsh_landings_cells marsh_landings_count marsh_fogSide snapshot_reeds_states snapshot_reeds_count snapshot_reeds_broken snapshot_fleet_numbers snapshot_fleet_cells snapshot_fleet_fares snapshot_fleet_count snapshot_fleet_nextNumber snapshot_fleet_total snapshot_fleet_removedFares snapshot_fleet_meetings snapshot_plans_moves snapshot_plans_lengths snapshot_landings_cells snapshot_landings_count snapshot_fogSide history_slots history_free history_count ways_tolls ways_queue ways_heap ways_heapSize ways_found ways_improved pairing_costs pairing_best reader_kinds reader_starts reader_count commandText_signs commandText_length line_signs line_length spareMoves snapshotTaken lastErrorPosition lastFailedCommand) : vx_Met l yX12_moveAt (Cond.code yX12_moveAt cX12_moveAt 4 (some .char) :: gAll) ({ frames := 8, cells := 2, slots := 12, locals := 140 }) (va_Pc [.ref b, .int x1, .int x2] (mm_Pre G w sz)) (mm_Qi G w sz (fun r w' => X.1 = 0 ∧ r = X.2 ∧ w' = w)) (mm_QX G w sz (fun E w' => X.1 ≠ 0 ∧ E = mm_ex X.1 ∧ w' = w)) 2 12 (va_A w sz) := by
  refine mm_xheadI hfl [.ref b, .int x1, .int x2] (by decide +kernel) rfl (Nat.le_of_ble_eq_true rfl) rfl rfl ?_
  intro p e s m args below meth c A Q hsz hC hM hret hprop hthrow ls hl
  have hx := hC.1.1
  have hb := hC.1.2.1
  have hl : lv_has ls 4 [(0, .ref b), (1, .int x1), (2, .int x2)] := hl
  rw [f_X12_moveAt] at hf
  refine lv_iload_n hx hb dX12_moveAt_0 rfl (lv_at hl 1 rfl) ?_
  obtain ⟨q1, hq1, hf⟩ := mm_bd hf
  refine mm_xSi (rest := []) hC hM (c_X12_existingPlan l hfl hq1) q5_38 q1_1 ykX12_existingPlan q5_36 q5_37 ⟨rfl, rfl⟩ ⟨Nat.le_of_ble_eq_true rfl, Nat.le_of_ble_eq_true rfl⟩ rfl hl.1 rfl (Nat.le_of_ble_eq_true rfl) dX12_moveAt_1 ⟨Nat.le_of_ble_eq_true rfl, Nat.le_of_ble_eq_true rfl⟩ (fun E ce qE w1 H locs hM hw hqE hv9 hcl9 => ?_) (fun r w1 H locs hM hw => ?_)
  · obtain ⟨hne, hE, hw⟩ := hw
    rw [if_neg hne] at hf
    rw [hw] at hM
    cases hf
    exact hprop hM hqE hv9 hcl9 ⟨hne, hE, rfl⟩ (Nat.le_of_ble_eq_true rfl) (Nat.le_of_ble_eq_true rfl)
  obtain ⟨h0, hr, hw⟩ := hw
  rw [if_pos h0] at hf
  rw [hr]
  rw [hw] at hM
  refine lv_istore_n (lv' := [(3, .int q1.2), (0, .ref b), (1, .int x1), (2, .int x2)]) hx hb dX12_moveAt_4 rfl hl (by decide) rfl (fun ls hl => ?_)
  refine lv_iload_n hx hb dX12_moveAt_5 rfl (lv_at hl 3 rfl) ?_
  refine lv_if_lt (tgt := 25) hx hb dX12_moveAt_6 (by decide) (fun hcd => ?_) (fun hcd => ?_)
  · rw [if_pos hcd] at hf
    cases hf
    exact hthrow (names := ["java/lang/RuntimeException", "java/lang/Exception"]) hM hl.1 (by decide +kernel) (by decide +kernel) q3_223 q1_20 vxa_2 vxb_2 dX12_moveAt_25 dX12_moveAt_28 dX12_moveAt_29 dX12_moveAt_32 (by decide) (Nat.le_of_ble_eq_true rfl) (Nat.le_of_ble_eq_true rfl) (Nat.le_of_ble_eq_true rfl) ⟨(by simp), rfl, rfl⟩
  · rw [if_neg hcd] at hf
    refine lv_iload_n hx hb dX12_moveAt_9 rfl (lv_at hl 3 rfl) ?_
    refine lv_aload_n hx hb dX12_moveAt_10 rfl (lv_at hl 1 rfl) ?_
    refine mm_get hC hM (k := 0) hp_this.1 rfl inAX12 (by decide) q2_16 rfl dX12_moveAt_11 ?_
    refine mm_get hC hM (k := 2) (hp_this.2.1).1 rfl inAX6 (by decide) q1_144 rfl dX12_moveAt_14 ?_
    refine mm_get hC hM (k := 1) ((hp_this.2.1).2.2.2.1).1 rfl inAX8 (by decide) q1_117 rfl dX12_moveAt_17 ?_
    refine lv_iload_n hx hb dX12_moveAt_20 rfl (lv_at hl 0 rfl) ?_
    obtain ⟨hg21, hf⟩ := mm_gd hf
    refine mm_iald hC hM (((hp_this.2.1).2.2.2.1).2.2) hg21 dX12_moveAt_21 ?_
    refine lv_icmp_lt (tgt := 33) hx hb dX12_moveAt_22 (by decide) (fun hcd => ?_) (fun hcd => ?_)
    · rw [if_pos hcd] at hf
      refine lv_aload_n hx hb dX12_moveAt_33 rfl (lv_at hl 1 rfl) ?_
      refine mm_get hC hM (k := 0) hp_this.1 rfl inAX12 (by decide) q2_16 rfl dX12_moveAt_34 ?_
      refine mm_get hC hM (k := 2) (hp_this.2.1).1 rfl inAX6 (by decide) q1_144 rfl dX12_moveAt_37 ?_
      refine lv_iload_n hx hb dX12_moveAt_40 rfl (lv_at hl 0 rfl) ?_
      refine lv_iload_n hx hb dX12_moveAt_41 rfl (lv_at hl 3 rfl) ?_
      obtain ⟨q42, hq42, hf⟩ := mm_bd hf
      refine mm_Vi (rest := []) hC hM (c_X8_moveIn l hq42 ((hp_this.2.1).2.2.2.1)) q2_225 q1_5 ykX8_moveIn q5_54 q2_223 q2_224 ((hp_this.2.1).2.2.2.1).1 rfl ⟨rfl, rfl⟩ ⟨Nat.le_of_ble_eq_true rfl, Nat.le_of_ble_eq_true rfl⟩ rfl hl.1 rfl (Nat.le_of_ble_eq_true rfl) dX12_moveAt_42 ⟨Nat.le_of_ble_eq_true rfl, Nat.le_of_ble_eq_true rfl⟩ (fun r w42 H locs hM hw => ?_)
      obtain ⟨hr, hw⟩ := hw
      rw [hr]
      rw [hw] at hM
      obtain ⟨q45, hq45, hf⟩ := mm_bd hf
      refine mm_Si (rest := []) hC hM (c_X12_letter l hq45) q5_57 q1_1 ykX12_letter q5_55 q5_56 ⟨rfl, rfl⟩ ⟨Nat.le_of_ble_eq_true rfl, Nat.le_of_ble_eq_true rfl⟩ rfl hl.1 rfl (Nat.le_of_ble_eq_true rfl) dX12_moveAt_45 ⟨Nat.le_of_ble_eq_true rfl, Nat.le_of_ble_eq_true rfl⟩ (fun r w45 H locs hM hw => ?_)
      obtain ⟨hr, hw⟩ := hw
      rw [hr]
      rw [hw] at hM
      obtain ⟨hgr, hf⟩ := mm_gb hf
      cases hf
      exact hret hM dX12_moveAt_48 (mm_narC (of_decide_eq_true hgr)) ⟨rfl, rfl, rfl⟩ (Nat.le_of_ble_eq_true rfl) (Nat.le_of_ble_eq_true rfl)
    · rw [if_neg hcd] at hf
      cases hf
      exact hthrow (names := ["java/lang/RuntimeException", "java/lang/Exception"]) hM hl.1 (by decide +kernel) (by decide +kernel) q3_223 q1_20 vxa_2 vxb_2 dX12_moveAt_25 dX12_moveAt_28 dX12_moveAt_29 dX12_moveAt_32 (by decide) (Nat.le_of_ble_eq_true rfl) (Nat.le_of_ble_eq_true rfl) (Nat.le_of_ble_eq_true rfl) ⟨(by simp), rfl, rfl⟩
def f_X12_areMirrored (K : Nat) (marsh_plans_moves : Nat → Int32) (marsh_plans_lengths : Nat → Int32) (x1 : Int32) (x2 : Int32) : Option (Nat × Int32) := (f_X12_existingPlan x1).bind fun q8 => if q8.1 = 0 then (f_X12_existingPlan x2).bind fun q12 => if q12.1 = 0 then (f_X8_mirrorEachOther K marsh_plans_moves marsh_plans_lengths q8.2 q12.2).bind fun q15 => mm_g (decide (q15 = 0 ∨ q15 = 1)) (some (0, q15)) else some (q12.1, 0) else some (q8.1, 0)
set_option maxHeartbeats 4000000 in
set_option maxRecDepth 100000 in
theorem c_X12_areMirrored (l : Launch) (hfl : l.stackTraces = false) {G : mm_G} {K : Nat} {w : va_W} {sz : Nat} {b : Nat} {marsh_reeds_states : Nat → Int32} {marsh_reeds_count : Int32} {marsh_reeds_broken : Int32} {marsh_fleet_numbers : Nat → Int32} {marsh_fleet_cells : Nat → Int32} {marsh_fleet_fares : Nat → Int32} {marsh_fleet_count : Int32} {marsh_fleet_nextNumber : Int32} {marsh_fleet_total : Int32} {marsh_fleet_removedFares : Int32} {marsh_fleet_meetings : Int32} {marsh_plans_moves : Nat → Int32} {marsh_plans_lengths : Nat → Int32} {marsh_landings_cells : Nat → Int32} {marsh_landings_count : Int32} {marsh_fogSide : Int32} {snapshot_reeds_states : Nat → Int32} {snapshot_reeds_count : Int32} {snapshot_reeds_broken : Int32} {snapshot_fleet_numbers : Nat → Int32} {snapshot_fleet_cells : Nat → Int32} {snapshot_fleet_fares : Nat → Int32} {snapshot_fleet_count : Int32} {snapshot_fleet_nextNumber : Int32} {snapshot_fleet_total : Int32} {snapshot_fleet_removedFares : Int32} {snapshot_fleet_meetings : Int32} {snapshot_plans_moves : Nat → Int32} {snapshot_plans_lengths : Nat → Int32} {snapshot_landings_cells : Nat → Int32} {snapshot_landings_count : Int32} {snapshot_fogSide : Int32} {history_slots : Nat → mm_MV} {history_free : Int32} {history_count : Int32} {ways_tolls : Nat → Int32} {ways_queue : Nat → Int32} {ways_heap : Nat → Int32} {ways_heapSize : Int32} {ways_found : Nat → Int32} {ways_improved : Nat → Int32} {pairing_costs : Nat → Int32} {pairing_best : Nat → Int32} {reader_kinds : Nat → Int32} {reader_starts : Nat → Int32} {reader_count : Int32} {commandText_signs : Nat → Int32} {commandText_length : Int32} {line_signs : Nat → Int32} {line_length : Int32} {spareMoves : Nat → Int32} {snapshotTaken : Int32} {lastErrorPosition : Int32} {lastFailedCommand : Int32} {x1 : Int32} {x2 : Int32} {X : Nat × Int32} (hf : f_X12_areMirrored K marsh_plans_moves marsh_plans_lengths x1 x2 = some X) (hp_this : At12 G w b marsh_reeds_states marsh_reeds_count marsh_reeds_broken marsh_fleet_numbers marsh_fleet_cells marsh_fleet_fares marsh_fleet_count marsh_fleet_nextNumber marsh_fleet_total marsh_fleet_removedFares marsh_fleet_meetings marsh_plans_moves marsh_plans_lengths marsh_landings_cells marsh_landings_count marsh_fogSide snapshot_reeds_states snapshot_reeds_count snapshot_reeds_broken snapshot_fleet_numbers snapshot_fleet_cells snapshot_fleet_fares snapshot_fleet_count snapshot_fleet_nextNumber snapshot_fleet_total snapshot_fleet_removedFares snapshot_fleet_meetings snapshot_plans_moves snapshot_plans_lengths snapshot_landings_cells snapshot_landings_count snapshot_fogSide history_slots history_free history_count ways_tolls ways_queue ways_heap ways_heapSize ways_found ways_improved pairing_costs pairing_best reader_kinds reader_starts reader_count commandText_signs commandText_length line_signs line_length spareMoves snapshotTaken lastErrorPosition lastFailedCommand) : vx_Met l yX12_areMirrored (Cond.code yX12_areMirrored cX12_areMirrored 3 (some .boolean) :: gAll) ({ frames := 8, cells := 2, slots := 12, locals := 140 }) (va_Pc [.ref b, .int x1, .int x2] (mm_Pre G w sz)) (mm_Qi G w sz (fun r w' => X.1 = 0 ∧ r = X.2 ∧ w' = w)) (mm_QX G w sz (fun E w' => X.1 ≠ 0 ∧ E = mm_ex X.1 ∧ w' = w)) 2 12 (va_A w sz) := by
  refine mm_xheadI hfl [.ref b, .int x1, .int x2] (by decide +kernel) rfl (Nat.le_of_ble_eq_true rfl) rfl rfl ?_
  intro p e s m args below meth c A Q hsz hC hM hret hprop hthrow ls hl
  have hx := hC.1.1
  have hb := hC.1.2.1
  have hl : lv_has ls 3 [(0, .ref b), (1, .int x1), (2, .int x2)] := hl
  rw [f_X12_areMirrored] at hf
  refine lv_aload_n hx hb dX12_areMirrored_0 rfl (lv_at hl 0 rfl) ?_
  refine mm_get hC hM (k := 0) hp_this.1 rfl inAX12 (by decide) q2_16 rfl dX12_areMirrored_1 ?_
  refine mm_get hC hM (k := 2) (hp_this.2.1).1 rfl inAX6 (by decide) q1_144 rfl dX12_areMirrored_4 ?_
  refine lv_iload_n hx hb dX12_areMirrored_7 rfl (lv_at hl 1 rfl) ?_
  obtain ⟨q8, hq8, hf⟩ := mm_bd hf
  refine mm_xSi (rest := [.ref (b + 1 + 7)]) hC hM (c_X12_existingPlan l hfl hq8) q5_38 q1_1 ykX12_existingPlan q5_36 q5_37 ⟨rfl, rfl⟩ ⟨Nat.le_of_ble_eq_true rfl, Nat.le_of_ble_eq_true rfl⟩ rfl hl.1 rfl (Nat.le_of_ble_eq_true rfl) dX12_areMirrored_8 ⟨Nat.le_of_ble_eq_true rfl, Nat.le_of_ble_eq_true rfl⟩ (fun E ce qE w8 H locs hM hw hqE hv9 hcl9 => ?_) (fun r w8 H locs hM hw => ?_)
  · obtain ⟨hne, hE, hw⟩ := hw
    rw [if_neg hne] at hf
    rw [hw] at hM
    cases hf
    exact hprop hM hqE hv9 hcl9 ⟨hne, hE, rfl⟩ (Nat.le_of_ble_eq_true rfl) (Nat.le_of_ble_eq_true rfl)
  obtain ⟨h0, hr, hw⟩ := hw
  rw [if_pos h0] at hf
  rw [hr]
  rw [hw] at hM
  refine lv_iload_n hx hb dX12_areMirrored_11 rfl (lv_at hl 2 rfl) ?_
  obtain ⟨q12, hq12, hf⟩ := mm_bd hf
  refine mm_xSi (rest := [.int q8.2, .ref (b + 1 + 7)]) hC hM (c_X12_existingPlan l hfl hq12) q5_38 q1_1 ykX12_existingPlan q5_36 q5_37 ⟨rfl, rfl⟩ ⟨Nat.le_of_ble_eq_true rfl, Nat.le_of_ble_eq_true rfl⟩ rfl hl.1 rfl (Nat.le_of_ble_eq_true rfl) dX12_areMirrored_12 ⟨Nat.le_of_ble_eq_true rfl, Nat.le_of_ble_eq_true rfl⟩ (fun E ce qE w12 H locs hM hw hqE hv9 hcl9 => ?_) (fun r w12 H locs hM hw => ?_)
  · obtain ⟨hne, hE, hw⟩ := hw
    rw [if_neg hne] at hf
    rw [hw] at hM
    cases hf
    exact hprop hM hqE hv9 hcl9 ⟨hne, hE, rfl⟩ (Nat.le_of_ble_eq_true rfl) (Nat.le_of_ble_eq_true rfl)
  obtain ⟨h0, hr, hw⟩ := hw
  rw [if_pos h0] at hf
  rw [hr]
  rw [hw] at hM
  obtain ⟨q15, hq15, hf⟩ := mm_bd hf
  refine mm_Vi (rest := []) hC hM (c_X8_mirrorEachOther l hq15 ((hp_this.2.1).2.2.2.1)) q5_68 q1_5 ykX8_mirrorEachOther q5_65 q5_66 q5_67 ((hp_this.2.1).2.2.2.1).1 rfl ⟨rfl, rfl⟩ ⟨Nat.le_of_ble_eq_true rfl, Nat.le_of_ble_eq_true rfl⟩ rfl hl.1 rfl (Nat.le_of_ble_eq_true rfl) dX12_areMirrored_15 ⟨Nat.le_of_ble_eq_true rfl, Nat.le_of_ble_eq_true rfl⟩ (fun r w15 H locs hM hw => ?_)
  obtain ⟨hr, hw⟩ := hw
  rw [hr]
  rw [hw] at hM
  obtain ⟨hgr, hf⟩ := mm_gb hf
  cases hf
  exact hret hM dX12_areMirrored_18 (mm_narZ (of_decide_eq_true hgr)) ⟨rfl, rfl, rfl⟩ (Nat.le_of_ble_eq_true rfl) (Nat.le_of_ble_eq_true rfl)
def f_X12_sail (K : Nat) (marsh_reeds_states : Nat → Int32) (marsh_reeds_count : Int32) (marsh_reeds_broken : Int32) (marsh_fleet_numbers : Nat → Int32) (marsh_fleet_cells : Nat → Int32) (marsh_fleet_fares : Nat → Int32) (marsh_fleet_count : Int32) (marsh_fleet_nextNumber : Int32) (marsh_fleet_total : Int32) (marsh_fleet_removedFares : Int32) (marsh_fleet_meetings : Int32) (marsh_plans_moves : Nat → Int32) (marsh_plans_lengths : Nat → Int32) (marsh_landings_cells : Nat → Int32) (marsh_landings_count : Int32) (marsh_fogSide : Int32) (history_slots : Nat → mm_MV) (history_free : Int32) (history_count : Int32) (x1 : Int32) (x2 : Int32) : Option (Nat × Int32 × (Nat → Int32) × (Nat → Int32) × Int32 × Int32 × (Nat → mm_MV) × Int32 × Int32) := (f_X4_note history_slots history_free marsh_reeds_states marsh_reeds_count marsh_reeds_broken marsh_fleet_numbers marsh_fleet_cells marsh_fleet_fares marsh_fleet_count marsh_fleet_nextNumber marsh_fleet_total marsh_fleet_removedFares marsh_fleet_meetings marsh_plans_moves marsh_plans_lengths marsh_landings_cells marsh_landings_count marsh_fogSide).bind fun q8 => (f_X6_sailBy K marsh_reeds_states marsh_fleet_numbers marsh_fleet_cells marsh_fleet_fares marsh_fleet_count marsh_fleet_total marsh_fleet_meetings marsh_plans_moves marsh_plans_lengths x1 x2).bind fun q18 => (f_X12_settled history_free history_count q18.1).bind fun q21 => if q21.1 = 0 then some (0, q21.2.1, q18.2.1, q18.2.2.1, q18.2.2.2.1, q18.2.2.2.2, q8, q21.2.2.1, q21.2.2.2) else some (q21.1, 0, q18.2.1, q18.2.2.1, q18.2.2.2.1, q18.2.2.2.2, q8, q21.2.2.1, q21.2.2.2)
set_option maxHeartbeats 4000000 in
set_option maxRecDepth 100000 in
theorem c_X12_sail (l : Launch) (hfl : l.stackTraces = false) {G : mm_G} {K : Nat} {w : va_W} {sz : Nat} {b : Nat} {marsh_reeds_states : Nat → Int32} {marsh_reeds_count : Int32} {marsh_reeds_broken : Int32} {marsh_fleet_numbers : Nat → Int32} {marsh_fleet_cells : Nat → Int32} {marsh_fleet_fares : Nat → Int32} {marsh_fleet_count : Int32} {marsh_fleet_nextNumber : Int32} {marsh_fleet_total : Int32} {marsh_fleet_removedFares : Int32} {marsh_fleet_meetings : Int32} {marsh_plans_moves : Nat → Int32} {marsh_plans_lengths : Nat → Int32} {marsh_landings_cells : Nat → Int32} {marsh_landings_count : Int32} {marsh_fogSide : Int32} {snapshot_reeds_states : Nat → Int32} {snapshot_reeds_count : Int32} {snapshot_reeds_broken : Int32} {snapshot_fleet_numbers : Nat → Int32} {snapshot_fleet_cells : Nat → Int32} {snapshot_fleet_fares : Nat → Int32} {snapshot_fleet_count : Int32} {snapshot_fleet_nextNumber : Int32} {snapshot_fleet_total : Int32} {snapshot_fleet_removedFares : Int32} {snapshot_fleet_meetings : Int32} {snapshot_plans_moves : Nat → Int32} {snapshot_plans_lengths : Nat → Int32} {snapshot_landings_cells : Nat → Int32} {snapshot_landings_count : Int32} {snapshot_fogSide : Int32} {history_slots : Nat → mm_MV} {history_free : Int32} {history_count : Int32} {ways_tolls : Nat → Int32} {ways_queue : Nat → Int32} {ways_heap : Nat → Int32} {ways_heapSize : Int32} {ways_found : Nat → Int32} {ways_improved : Nat → Int32} {pairing_costs : Nat → Int32} {pairing_best : Nat → Int32} {reader_kinds : Nat → Int32} {reader_starts : Nat → Int32} {reader_count : Int32} {commandText_signs : Nat → Int32} {commandText_length : Int32} {line_signs : Nat → Int32} {line_length : Int32} {spareMoves : Nat → Int32} {snapshotTaken : Int32} {lastErrorPosition : Int32} {lastFailedCommand : Int32} {x1 : Int32} {x2 : Int32} {X : Nat × Int32 × (Nat → Int32) × (Nat → Int32) × Int32 × Int32 × (Nat → mm_MV) × Int32 × Int32} (hf : f_X12_sail K marsh_reeds_states marsh_reeds_count marsh_reeds_broken marsh_fleet_numbers marsh_fleet_cells marsh_fleet_fares marsh_fleet_count marsh_fleet_nextNumber marsh_fleet_total marsh_fleet_removedFares marsh_fleet_meetings marsh_plans_moves marsh_plans_lengths marsh_landings_cells marsh_landings_count marsh_fogSide history_slots history_free history_count x1 x2 = some X) (hp_this : At12 G w b marsh_reeds_states marsh_reeds_count marsh_reeds_broken marsh_fleet_numbers marsh_fleet_cells marsh_fleet_fares marsh_fleet_count marsh_fleet_nextNumber marsh_fleet_total marsh_fleet_removedFares marsh_fleet_meetings marsh_plans_moves marsh_plans_lengths marsh_landings_cells marsh_landings_count marsh_fogSide snapshot_reeds_states snapshot_reeds_count snapshot_reeds_broken snapshot_fleet_numbers snapshot_fleet_cells snapshot_fleet_fares snapshot_fleet_count snapshot_fleet_nextNumber snapshot_fleet_total snapshot_fleet_removedFares snapshot_fleet_meetings snapshot_plans_moves snapshot_plans_lengths snapshot_landings_cells snapshot_landings_count snapshot_fogSide history_slots history_free history_count ways_tolls ways_queue ways_heap ways_heapSize ways_found ways_improved pairing_costs pairing_best reader_kinds reader_starts reader_count commandText_signs commandText_length line_signs line_length spareMoves snapshotTaken lastErrorPosition lastFailedCommand) : vx_Met l yX12_sail (Cond.code yX12_sail cX12_sail 3 (some .int) :: gAll) ({ frames := 8, cells := 1, slots := 6, locals := 141 }) (va_Pc [.ref b, .int x1, .int x2] (mm_Pre G w sz)) (mm_Qi G w sz (fun r w' => X.1 = 0 ∧ r = X.2.1 ∧ At12 G w' b marsh_reeds_states marsh_reeds_count marsh_reeds_broken marsh_fleet_numbers X.2.2.1 X.2.2.2.1 marsh_fleet_count marsh_fleet_nextNumber X.2.2.2.2.1 marsh_fleet_removedFares X.2.2.2.2.2.1 marsh_plans_moves marsh_plans_lengths marsh_landings_cells marsh_landings_count marsh_fogSide snapshot_reeds_states snapshot_reeds_count snapshot_reeds_broken snapshot_fleet_numbers snapshot_fleet_cells snapshot_fleet_fares snapshot_fleet_count snapshot_fleet_nextNumber snapshot_fleet_total snapshot_fleet_removedFares snapshot_fleet_meetings snapshot_plans_moves snapshot_plans_lengths snapshot_landings_cells snapshot_landings_count snapshot_fogSide X.2.2.2.2.2.2.1 X.2.2.2.2.2.2.2.1 X.2.2.2.2.2.2.2.2 ways_tolls ways_queue ways_heap ways_heapSize ways_found ways_improved pairing_costs pairing_best reader_kinds reader_starts reader_count commandText_signs commandText_length line_signs line_length spareMoves snapshotTaken lastErrorPosition lastFailedCommand ∧ mm_fr w w' b (b + 152))) (mm_QX G w sz (fun E w' => X.1 ≠ 0 ∧ E = mm_ex X.1 ∧ At12 G w' b marsh_reeds_states marsh_reeds_count marsh_reeds_broken marsh_fleet_numbers X.2.2.1 X.2.2.2.1 marsh_fleet_count marsh_fleet_nextNumber X.2.2.2.2.1 marsh_fleet_removedFares X.2.2.2.2.2.1 marsh_plans_moves marsh_plans_lengths marsh_landings_cells marsh_landings_count marsh_fogSide snapshot_reeds_states snapshot_reeds_count snapshot_reeds_broken snapshot_fleet_numbers snapshot_fleet_cells snapshot_fleet_fares snapshot_fleet_count snapshot_fleet_nextNumber snapshot_fleet_total snapshot_fleet_removedFares snapshot_fleet_meetings snapshot_plans_moves snapshot_plans_lengths snapshot_landings_cells snapshot_landings_count snapshot_fogSide X.2.2.2.2.2.2.1 X.2.2.2.2.2.2.2.1 X.2.2.2.2.2.2.2.2 ways_tolls ways_queue ways_heap ways_heapSize ways_found ways_improved pairing_costs pairing_best reader_kinds reader_starts reader_count commandText_signs commandText_length line_signs line_length spareMoves snapshotTaken lastErrorPosition lastFailedCommand ∧ mm_fr w w' b (b + 152))) 1 6 (va_A w sz) := by
  refine mm_xheadI hfl [.ref b, .int x1, .int x2] (by decide +kernel) rfl (Nat.le_of_ble_eq_true rfl) rfl rfl ?_
  intro p e s m args below meth c A Q hsz hC hM hret hprop hthrow ls hl
  have hx := hC.1.1
  have hb := hC.1.2.1
  have hl : lv_has ls 3 [(0, .ref b), (1, .int x1), (2, .int x2)] := hl
  have hF : mm_fr w w b (b + 152) := mm_fr.rf
  rw [f_X12_sail] at hf
  obtain ⟨hc_this, hp_this_marsh, hp_this_snapshot, hp_this_history, hp_this_ways, hp_this_pairing, hp_this_reader, hp_this_commandText, hp_this_line, hp_this_spareMoves⟩ := hp_this
  refine lv_aload_n hx hb dX12_sail_0 rfl (lv_at hl 0 rfl) ?_
  refine mm_get hC hM (k := 2) hc_this rfl inAX12 (by decide) q2_18 rfl dX12_sail_1 ?_
  refine lv_aload_n hx hb dX12_sail_4 rfl (lv_at hl 0 rfl) ?_
  refine mm_get hC hM (k := 0) hc_this rfl inAX12 (by decide) q2_16 rfl dX12_sail_5 ?_
  obtain ⟨q8, hq8, hf⟩ := mm_bd hf
  refine mm_Vv (rest := []) hC hM (c_X4_note l hq8 hp_this_history hp_this_marsh (by omega)) q3_178 q1_7 ykX4_note q3_175 q3_176 q3_177 hp_this_history.1 rfl ⟨rfl, rfl⟩ ⟨Nat.le_of_ble_eq_true rfl, Nat.le_of_ble_eq_true rfl⟩ rfl hl.1 rfl (Nat.le_of_ble_eq_true rfl) dX12_sail_8 ⟨Nat.le_of_ble_eq_true rfl, Nat.le_of_ble_eq_true rfl⟩ (fun w8 H locs hM hw => ?_)
  obtain ⟨hn_this, hfr⟩ := hw
  have hc_this := hfr.keep hc_this (by omega)
  have hp_this_spareMoves := hfr.keep hp_this_spareMoves (by omega)
  have hp_this_marsh := hp_this_marsh.keep hfr (by omega)
  have hp_this_snapshot := hp_this_snapshot.keep hfr (by omega)
  have hp_this_ways := hp_this_ways.keep hfr (by omega)
  have hp_this_pairing := hp_this_pairing.keep hfr (by omega)
  have hp_this_reader := hp_this_reader.keep hfr (by omega)
  have hp_this_commandText := hp_this_commandText.keep hfr (by omega)
  have hp_this_line := hp_this_line.keep hfr (by omega)
  have hp_this_history := hn_this
  have hF := hF.tr (hfr.wide (by omega) (by omega))
  refine lv_aload_n hx hb dX12_sail_11 rfl (lv_at hl 0 rfl) ?_
  refine lv_aload_n hx hb dX12_sail_12 rfl (lv_at hl 0 rfl) ?_
  refine mm_get hC hM (k := 0) hc_this rfl inAX12 (by decide) q2_16 rfl dX12_sail_13 ?_
  refine lv_iload_n hx hb dX12_sail_16 rfl (lv_at hl 1 rfl) ?_
  refine lv_iload_n hx hb dX12_sail_17 rfl (lv_at hl 2 rfl) ?_
  obtain ⟨q18, hq18, hf⟩ := mm_bd hf
  refine mm_Vi (rest := [.ref b]) hC hM (c_X6_sailBy l hq18 hp_this_marsh) q5_79 q1_2 ykX6_sailBy q5_76 q5_77 q5_78 hp_this_marsh.1 rfl ⟨rfl, rfl⟩ ⟨Nat.le_of_ble_eq_true rfl, Nat.le_of_ble_eq_true rfl⟩ rfl hl.1 rfl (Nat.le_of_ble_eq_true rfl) dX12_sail_18 ⟨Nat.le_of_ble_eq_true rfl, Nat.le_of_ble_eq_true rfl⟩ (fun r w18 H locs hM hw => ?_)
  obtain ⟨hr, hn_this, hfr⟩ := hw
  rw [hr]
  have hc_this := hfr.keep hc_this (by omega)
  have hp_this_spareMoves := hfr.keep hp_this_spareMoves (by omega)
  have hp_this_snapshot := hp_this_snapshot.keep hfr (by omega)
  have hp_this_history := hp_this_history.keep hfr (by omega)
  have hp_this_ways := hp_this_ways.keep hfr (by omega)
  have hp_this_pairing := hp_this_pairing.keep hfr (by omega)
  have hp_this_reader := hp_this_reader.keep hfr (by omega)
  have hp_this_commandText := hp_this_commandText.keep hfr (by omega)
  have hp_this_line := hp_this_line.keep hfr (by omega)
  have hp_this_marsh := hn_this
  have hF := hF.tr (hfr.wide (by omega) (by omega))
  obtain ⟨q21, hq21, hf⟩ := mm_bd hf
  refine mm_xVi (rest := []) hC hM (c_X12_settled l hfl hq21 ⟨hc_this, hp_this_marsh, hp_this_snapshot, hp_this_history, hp_this_ways, hp_this_pairing, hp_this_reader, hp_this_commandText, hp_this_line, hp_this_spareMoves⟩) q3_201 q1_1 ykX12_settled q3_198 q3_200 qp_bbc23764 hc_this rfl ⟨rfl, rfl⟩ ⟨Nat.le_of_ble_eq_true rfl, Nat.le_of_ble_eq_true rfl⟩ rfl hl.1 rfl (Nat.le_of_ble_eq_true rfl) dX12_sail_21 ⟨Nat.le_of_ble_eq_true rfl, Nat.le_of_ble_eq_true rfl⟩ (fun E ce qE w21 H locs hM hw hqE hv9 hcl9 => ?_) (fun r w21 H locs hM hw => ?_)
  · obtain ⟨hne, hE, hn_this, hfr⟩ := hw
    rw [if_neg hne] at hf
    obtain ⟨hc_this, hp_this_marsh, hp_this_snapshot, hp_this_history, hp_this_ways, hp_this_pairing, hp_this_reader, hp_this_commandText, hp_this_line, hp_this_spareMoves⟩ := hn_this
    have hF := hF.tr (hfr.wide (by omega) (by omega))
    cases hf
    exact hprop hM hqE hv9 hcl9 ⟨hne, hE, ⟨hc_this, hp_this_marsh, hp_this_snapshot, hp_this_history, hp_this_ways, hp_this_pairing, hp_this_reader, hp_this_commandText, hp_this_line, hp_this_spareMoves⟩, hF⟩ (Nat.le_of_ble_eq_true rfl) (Nat.le_of_ble_eq_true rfl)
  obtain ⟨h0, hr, hn_this, hfr⟩ := hw
  rw [if_pos h0] at hf
  rw [hr]
  obtain ⟨hc_this, hp_this_marsh, hp_this_snapshot, hp_this_history, hp_this_ways, hp_this_pairing, hp_this_reader, hp_this_commandText, hp_this_line, hp_this_spareMoves⟩ := hn_this
  have hF := hF.tr (hfr.wide (by omega) (by omega))
  cases hf
  exact hret hM dX12_sail_24 rfl ⟨rfl, rfl, ⟨hc_this, hp_this_marsh, hp_this_snapshot, hp_this_history, hp_this_ways, hp_this_pairing, hp_this_reader, hp_this_commandText, hp_this_line, hp_this_spareMoves⟩, hF⟩ (Nat.le_of_ble_eq_true rfl) (Nat.le_of_ble_eq_true rfl)
def f_X12_blockedMove (K : Nat) (marsh_reeds_states : Nat → Int32) (marsh_fleet_numbers : Nat → Int32) (marsh_fleet_cells : Nat → Int32) (marsh_fleet_count : Int32) (marsh_plans_moves : Nat → Int32) (marsh_plans_lengths : Nat → Int32) (x1 : Int32) (x2 : Int32) : Option (Nat × Int32) := (f_X12_existingPlace K marsh_fleet_numbers marsh_fleet_count x1).bind fun q2 => if q2.1 = 0 then (f_X12_existingPlan x2).bind fun q12 => if q12.1 = 0 then (f_X6_blockedPosition K marsh_reeds_states marsh_fleet_cells marsh_fleet_count marsh_plans_moves marsh_plans_lengths q2.2 q12.2).bind fun q15 => some (0, q15) else some (q12.1, 0) else some (q2.1, 0)
set_option maxHeartbeats 4000000 in
set_option maxRecDepth 100000 in
theorem c_X12_blockedMove (l : Launch) (hfl : l.stackTraces = false) {G : mm_G} {K : Nat} {w : va_W} {sz : Nat} {b : Nat} {marsh_reeds_states : Nat → Int32} {marsh_reeds_count : Int32} {marsh_reeds_broken : Int32} {marsh_fleet_numbers : Nat → Int32} {marsh_fleet_cells : Nat → Int32} {marsh_fleet_fares : Nat → Int32} {marsh_fleet_count : Int32} {marsh_fleet_nextNumber : Int32} {marsh_fleet_total : Int32} {marsh_fleet_removedFares : Int32} {marsh_fleet_meetings : Int32} {marsh_plans_moves : Nat → Int32} {marsh_plans_lengths : Nat → Int32} {marsh_landings_cells : Nat → Int32} {marsh_landings_count : Int32} {marsh_fogSide : Int32} {snapshot_reeds_states : Nat → Int32} {snapshot_reeds_count : Int32} {snapshot_reeds_broken : Int32} {snapshot_fleet_numbers : Nat → Int32} {snapshot_fleet_cells : Nat → Int32} {snapshot_fleet_fares : Nat → Int32} {snapshot_fleet_count : Int32} {snapshot_fleet_nextNumber : Int32} {snapshot_fleet_total : Int32} {snapshot_fleet_removedFares : Int32} {snapshot_fleet_meetings : Int32} {snapshot_plans_moves : Nat → Int32} {snapshot_plans_lengths : Nat → Int32} {snapshot_landings_cells : Nat → Int32} {snapshot_landings_count : Int32} {snapshot_fogSide : Int32} {history_slots : Nat → mm_MV} {history_free : Int32} {history_count : Int32} {ways_tolls : Nat → Int32} {ways_queue : Nat → Int32} {ways_heap : Nat → Int32} {ways_heapSize : Int32} {ways_found : Nat → Int32} {ways_improved : Nat → Int32} {pairing_costs : Nat → Int32} {pairing_best : Nat → Int32} {reader_kinds : Nat → Int32} {reader_starts : Nat → Int32} {reader_count : Int32} {commandText_signs : Nat → Int32} {commandText_length : Int32} {line_signs : Nat → Int32} {line_length : Int32} {spareMoves : Nat → Int32} {snapshotTaken : Int32} {lastErrorPosition : Int32} {lastFailedCommand : Int32} {x1 : Int32} {x2 : Int32} {X : Nat × Int32} (hf : f_X12_blockedMove K marsh_reeds_states marsh_fleet_numbers marsh_fleet_cells marsh_fleet_count marsh_plans_moves marsh_plans_lengths x1 x2 = some X) (hp_this : At12 G w b marsh_reeds_states marsh_reeds_count marsh_reeds_broken marsh_fleet_numbers marsh_fleet_cells marsh_fleet_fares marsh_fleet_count marsh_fleet_nextNumber marsh_fleet_total marsh_fleet_removedFares marsh_fleet_meetings marsh_plans_moves marsh_plans_lengths marsh_landings_cells marsh_landings_count marsh_fogSide snapshot_reeds_states snapshot_reeds_count snapshot_reeds_broken snapshot_fleet_numbers snapshot_fleet_cells snapshot_fleet_fares snapshot_fleet_count snapshot_fleet_nextNumber snapshot_fleet_total snapshot_fleet_removedFares snapshot_fleet_meetings snapshot_plans_moves snapshot_plans_lengths snapshot_landings_cells snapshot_landings_count snapshot_fogSide history_slots history_free history_count ways_tolls ways_queue ways_heap ways_heapSize ways_found ways_improved pairing_costs pairing_best reader_kinds reader_starts reader_count commandText_signs commandText_length line_signs line_length spareMoves snapshotTaken lastErrorPosition lastFailedCommand) : vx_Met l yX12_blockedMove (Cond.code yX12_blockedMove cX12_blockedMove 4 (some .int) :: gAll) ({ frames := 8, cells := 2, slots := 12, locals := 142 }) (va_Pc [.ref b, .int x1, .int x2] (mm_Pre G w sz)) (mm_Qi G w sz (fun r w' => X.1 = 0 ∧ r = X.2 ∧ w' = w)) (mm_QX G w sz (fun E w' => X.1 ≠ 0 ∧ E = mm_ex X.1 ∧ w' = w)) 2 12 (va_A w sz) := by
  refine mm_xheadI hfl [.ref b, .int x1, .int x2] (by decide +kernel) rfl (Nat.le_of_ble_eq_true rfl) rfl rfl ?_
  intro p e s m args below meth c A Q hsz hC hM hret hprop hthrow ls hl
  have hx := hC.1.1
  have hb := hC.1.2.1
  have hl : lv_has ls 4 [(0, .ref b), (1, .int x1), (2, .int x2)] := hl
  rw [f_X12_blockedMove] at hf
  refine lv_aload_n hx hb dX12_blockedMove_0 rfl (lv_at hl 0 rfl) ?_
  refine lv_iload_n hx hb dX12_blockedMove_1 rfl (lv_at hl 1 rfl) ?_
  obtain ⟨q2, hq2, hf⟩ := mm_bd hf
  refine mm_xVi (rest := []) hC hM (c_X12_existingPlace l hfl hq2 hp_this) q4_159 q1_1 ykX12_existingPlace q4_156 q4_158 qp_40dca9e3 hp_this.1 rfl ⟨rfl, rfl⟩ ⟨Nat.le_of_ble_eq_true rfl, Nat.le_of_ble_eq_true rfl⟩ rfl hl.1 rfl (Nat.le_of_ble_eq_true rfl) dX12_blockedMove_2 ⟨Nat.le_of_ble_eq_true rfl, Nat.le_of_ble_eq_true rfl⟩ (fun E ce qE w2 H locs hM hw hqE hv9 hcl9 => ?_) (fun r w2 H locs hM hw => ?_)
  · obtain ⟨hne, hE, hw⟩ := hw
    rw [if_neg hne] at hf
    rw [hw] at hM
    cases hf
    exact hprop hM hqE hv9 hcl9 ⟨hne, hE, rfl⟩ (Nat.le_of_ble_eq_true rfl) (Nat.le_of_ble_eq_true rfl)
  obtain ⟨h0, hr, hw⟩ := hw
  rw [if_pos h0] at hf
  rw [hr]
  rw [hw] at hM
  refine lv_istore_n (lv' := [(3, .int q2.2), (0, .ref b), (1, .int x1), (2, .int x2)]) hx hb dX12_blockedMove_5 rfl hl (by decide) rfl (fun ls hl => ?_)
  refine lv_aload_n hx hb dX12_blockedMove_6 rfl (lv_at hl 1 rfl) ?_
  refine mm_get hC hM (k := 0) hp_this.1 rfl inAX12 (by decide) q2_16 rfl dX12_blockedMove_7 ?_
  refine lv_iload_n hx hb dX12_blockedMove_10 rfl (lv_at hl 0 rfl) ?_
  refine lv_iload_n hx hb dX12_blockedMove_11 rfl (lv_at hl 3 rfl) ?_
  obtain ⟨q12, hq12, hf⟩ := mm_bd hf
  refine mm_xSi (rest := [.int q2.2, .ref (b + 1)]) hC hM (c_X12_existingPlan l hfl hq12) q5_38 q1_1 ykX12_existingPlan q5_36 q5_37 ⟨rfl, rfl⟩ ⟨Nat.le_of_ble_eq_true rfl, Nat.le_of_ble_eq_true rfl⟩ rfl hl.1 rfl (Nat.le_of_ble_eq_true rfl) dX12_blockedMove_12 ⟨Nat.le_of_ble_eq_true rfl, Nat.le_of_ble_eq_true rfl⟩ (fun E ce qE w12 H locs hM hw hqE hv9 hcl9 => ?_) (fun r w12 H locs hM hw => ?_)
  · obtain ⟨hne, hE, hw⟩ := hw
    rw [if_neg hne] at hf
    rw [hw] at hM
    cases hf
    exact hprop hM hqE hv9 hcl9 ⟨hne, hE, rfl⟩ (Nat.le_of_ble_eq_true rfl) (Nat.le_of_ble_eq_true rfl)
  obtain ⟨h0, hr, hw⟩ := hw
  rw [if_pos h0] at hf
  rw [hr]
  rw [hw] at hM
  obtain ⟨q15, hq15, hf⟩ := mm_bd hf
  refine mm_Vi (rest := []) hC hM (c_X6_blockedPosition l hq15 (hp_this.2.1)) q5_85 q1_2 ykX6_blockedPosition q5_105 q5_83 q5_84 (hp_this.2.1).1 rfl ⟨rfl, rfl⟩ ⟨Nat.le_of_ble_eq_true rfl, Nat.le_of_ble_eq_true rfl⟩ rfl hl.1 rfl (Nat.le_of_ble_eq_true rfl) dX12_blockedMove_15 ⟨Nat.le_of_ble_eq_true rfl, Nat.le_of_ble_eq_true rfl⟩ (fun r w15 H locs hM hw => ?_)
  obtain ⟨hr, hw⟩ := hw
  rw [hr]
  rw [hw] at hM
  cases hf
  exact hret hM dX12_blockedMove_18 rfl ⟨rfl, rfl, rfl⟩ (Nat.le_of_ble_eq_true rfl) (Nat.le_of_ble_eq_true rfl)
def f_X12_reached (x0 : Int32) : Option (Nat × Int32) := if x0 < 1000000 then some (0, x0) else some (2, 0)
set_option maxHeartbeats 4000000 in
set_option maxRecDepth 100000 in
theorem c_X12_reached (l : Launch) (hfl : l.stackTraces = false) {G : mm_G} {w : va_W} {sz : Nat} {x0 : Int32} {X : Nat × Int32} (hf : f_X12_reached x0 = some X) : vx_Met l yX12_reached (Cond.code yX12_reached cX12_reached 1 (some .int) :: gAll) ({ frames := 7, cells := 1, slots := 6, locals := 120 }) (va_Pc [.int x0] (mm_Pre G w sz)) (mm_Qi G w sz (fun r w' => X.1 = 0 ∧ r = X.2 ∧ w' = w)) (mm_QX G w sz (fun E w' => X.1 ≠ 0 ∧ E = mm_ex X.1 ∧ w' = w)) 1 6 (va_A w sz) := by
  refine mm_xheadI hfl [.int x0] (by decide +kernel) rfl (Nat.le_of_ble_eq_true rfl) rfl rfl ?_
  intro p e s m args below meth c A Q hsz hC hM hret hprop hthrow ls hl
  have hx := hC.1.1
  have hb := hC.1.2.1
  have hl : lv_has ls 1 [(0, .int x0)] := hl
  rw [f_X12_reached] at hf
  refine lv_iload_n hx hb dX12_reached_0 rfl (lv_at hl 0 rfl) ?_
  refine lv_ldcw hx hb hC.1.2.2.2.1 (hC.1.2.2.2.2 _ q5_116) dX12_reached_1 ?_
  refine lv_icmp_lt (tgt := 15) hx hb dX12_reached_4 (by decide) (fun hcd => ?_) (fun hcd => ?_)
  · rw [if_pos hcd] at hf
    refine lv_iload_n hx hb dX12_reached_15 rfl (lv_at hl 0 rfl) ?_
    cases hf
    exact hret hM dX12_reached_16 rfl ⟨rfl, rfl, rfl⟩ (Nat.le_of_ble_eq_true rfl) (Nat.le_of_ble_eq_true rfl)
  · rw [if_neg hcd] at hf
    cases hf
    exact hthrow (names := ["java/lang/RuntimeException", "java/lang/Exception"]) hM hl.1 (by decide +kernel) (by decide +kernel) q3_223 q1_20 vxa_2 vxb_2 dX12_reached_7 dX12_reached_10 dX12_reached_11 dX12_reached_14 (by decide) (Nat.le_of_ble_eq_true rfl) (Nat.le_of_ble_eq_true rfl) (Nat.le_of_ble_eq_true rfl) ⟨(by simp), rfl, rfl⟩
def f_X12_wayLength (K : Nat) (marsh_reeds_states : Nat → Int32) (marsh_fleet_numbers : Nat → Int32) (marsh_fleet_cells : Nat → Int32) (marsh_fleet_count : Int32) (ways_tolls : Nat → Int32) (ways_queue : Nat → Int32) (ways_found : Nat → Int32) (x1 : Int32) (x2 : Int32) (x3 : Int32) : Option (Nat × Int32 × (Nat → Int32) × (Nat → Int32) × (Nat → Int32)) := (f_X12_existingPlace K marsh_fleet_numbers marsh_fleet_count x1).bind fun q12 => if q12.1 = 0 then mm_g (mm_ck q12.2 4) ((f_X12_existingCell x2 x3).bind fun q20 => if q20.1 = 0 then (f_X11_setPlainTolls K ways_tolls marsh_reeds_states).bind fun q33 => (f_X11_searchByBreadth K q33 ways_queue ways_found (marsh_fleet_cells q12.2.toNatClampNeg)).bind fun q42 => mm_g (mm_ck q20.2 81) ((f_X12_reached (q42.2 q20.2.toNatClampNeg)).bind fun q55 => if q55.1 = 0 then some (0, q55.2, q33, q42.1, q42.2) else some (q55.1, 0, q33, q42.1, q42.2)) else some (q20.1, 0, ways_tolls, ways_queue, ways_found)) else some (q12.1, 0, ways_tolls, ways_queue, ways_found)
set_option maxHeartbeats 4000000 in
set_option maxRecDepth 100000 in
theorem c_X12_wayLength (l : Launch) (hfl : l.stackTraces = false) {G : mm_G} {K : Nat} {w : va_W} {sz : Nat} {b : Nat} {marsh_reeds_states : Nat → Int32} {marsh_reeds_count : Int32} {marsh_reeds_broken : Int32} {marsh_fleet_numbers : Nat → Int32} {marsh_fleet_cells : Nat → Int32} {marsh_fleet_fares : Nat → Int32} {marsh_fleet_count : Int32} {marsh_fleet_nextNumber : Int32} {marsh_fleet_total : Int32} {marsh_fleet_removedFares : Int32} {marsh_fleet_meetings : Int32} {marsh_plans_moves : Nat → Int32} {marsh_plans_lengths : Nat → Int32} {marsh_landings_cells : Nat → Int32} {marsh_landings_count : Int32} {marsh_fogSide : Int32} {snapshot_reeds_states : Nat → Int32} {snapshot_reeds_count : Int32} {snapshot_reeds_broken : Int32} {snapshot_fleet_numbers : Nat → Int32} {snapshot_fleet_cells : Nat → Int32} {snapshot_fleet_fares : Nat → Int32} {snapshot_fleet_count : Int32} {snapshot_fleet_nextNumber : Int32} {snapshot_fleet_total : Int32} {snapshot_fleet_removedFares : Int32} {snapshot_fleet_meetings : Int32} {snapshot_plans_moves : Nat → Int32} {snapshot_plans_lengths : Nat → Int32} {snapshot_landings_cells : Nat → Int32} {snapshot_landings_count : Int32} {snapshot_fogSide : Int32} {history_slots : Nat → mm_MV} {history_free : Int32} {history_count : Int32} {ways_tolls : Nat → Int32} {ways_queue : Nat → Int32} {ways_heap : Nat → Int32} {ways_heapSize : Int32} {ways_found : Nat → Int32} {ways_improved : Nat → Int32} {pairing_costs : Nat → Int32} {pairing_best : Nat → Int32} {reader_kinds : Nat → Int32} {reader_starts : Nat → Int32} {reader_count : Int32} {commandText_signs : Nat → Int32} {commandText_length : Int32} {line_signs : Nat → Int32} {line_length : Int32} {spareMoves : Nat → Int32} {snapshotTaken : Int32} {lastErrorPosition : Int32} {lastFailedCommand : Int32} {x1 : Int32} {x2 : Int32} {x3 : Int32} {X : Nat × Int32 × (Nat → Int32) × (Nat → Int32) × (Nat → Int32)} (hf : f_X12_wayLength K marsh_reeds_states marsh_fleet_numbers marsh_fleet_cells marsh_fleet_count ways_tolls ways_queue ways_found x1 x2 x3 = some X) (hp_this : At12 G w b marsh_reeds_states marsh_reeds_count marsh_reeds_broken marsh_fleet_numbers marsh_fleet_cells marsh_fleet_fares marsh_fleet_count marsh_fleet_nextNumber marsh_fleet_total marsh_fleet_removedFares marsh_fleet_meetings marsh_plans_moves marsh_plans_lengths marsh_landings_cells marsh_landings_count marsh_fogSide snapshot_reeds_states snapshot_reeds_count snapshot_reeds_broken snapshot_fleet_numbers snapshot_fleet_cells snapshot_fleet_fares snapshot_fleet_count snapshot_fleet_nextNumber snapshot_fleet_total snapshot_fleet_removedFares snapshot_fleet_meetings snapshot_plans_moves snapshot_plans_lengths snapshot_landings_cells snapshot_landings_count snapshot_fogSide history_slots history_free history_count ways_tolls ways_queue ways_heap ways_heapSize ways_found ways_improved pairing_costs pairing_best reader_kinds reader_starts reader_count commandText_signs commandText_length line_signs line_length spareMoves snapshotTaken lastErrorPosition lastFailedCommand) : vx_Met l yX12_wayLength (Cond.code yX12_wayLength cX12_wayLength 6 (some .int) :: gAll) ({ frames := 8, cells := 3, slots := 18, locals := 142 }) (va_Pc [.ref b, .int x1, .int x2, .int x3] (mm_Pre G w sz)) (mm_Qi G w sz (fun r w' => X.1 = 0 ∧ r = X.2.1 ∧ At12 G w' b marsh_reeds_states marsh_reeds_count marsh_reeds_broken marsh_fleet_numbers marsh_fleet_cells marsh_fleet_fares marsh_fleet_count marsh_fleet_nextNumber marsh_fleet_total marsh_fleet_removedFares marsh_fleet_meetings marsh_plans_moves marsh_plans_lengths marsh_landings_cells marsh_landings_count marsh_fogSide snapshot_reeds_states snapshot_reeds_count snapshot_reeds_broken snapshot_fleet_numbers snapshot_fleet_cells snapshot_fleet_fares snapshot_fleet_count snapshot_fleet_nextNumber snapshot_fleet_total snapshot_fleet_removedFares snapshot_fleet_meetings snapshot_plans_moves snapshot_plans_lengths snapshot_landings_cells snapshot_landings_count snapshot_fogSide history_slots history_free history_count X.2.2.1 X.2.2.2.1 ways_heap ways_heapSize X.2.2.2.2 ways_improved pairing_costs pairing_best reader_kinds reader_starts reader_count commandText_signs commandText_length line_signs line_length spareMoves snapshotTaken lastErrorPosition lastFailedCommand ∧ mm_fr w w' b (b + 152))) (mm_QX G w sz (fun E w' => X.1 ≠ 0 ∧ E = mm_ex X.1 ∧ At12 G w' b marsh_reeds_states marsh_reeds_count marsh_reeds_broken marsh_fleet_numbers marsh_fleet_cells marsh_fleet_fares marsh_fleet_count marsh_fleet_nextNumber marsh_fleet_total marsh_fleet_removedFares marsh_fleet_meetings marsh_plans_moves marsh_plans_lengths marsh_landings_cells marsh_landings_count marsh_fogSide snapshot_reeds_states snapshot_reeds_count snapshot_reeds_broken snapshot_fleet_numbers snapshot_fleet_cells snapshot_fleet_fares snapshot_fleet_count snapshot_fleet_nextNumber snapshot_fleet_total snapshot_fleet_removedFares snapshot_fleet_meetings snapshot_plans_moves snapshot_plans_lengths snapshot_landings_cells snapshot_landings_count snapshot_fogSide history_slots history_free history_count X.2.2.1 X.2.2.2.1 ways_heap ways_heapSize X.2.2.2.2 ways_improved pairing_costs pairing_best reader_kinds reader_starts reader_count commandText_signs commandText_length line_signs line_length spareMoves snapshotTaken lastErrorPosition lastFailedCommand ∧ mm_fr w w' b (b + 152))) 3 18 (va_A w sz) := by
  refine mm_xheadI hfl [.ref b, .int x1, .int x2, .int x3] (by decide +kernel) rfl (Nat.le_of_ble_eq_true rfl) rfl rfl ?_
  intro p e s m args below meth c A Q hsz hC hM hret hprop hthrow ls hl
  have hx := hC.1.1
  have hb := hC.1.2.1
  have hl : lv_has ls 6 [(0, .ref b), (1, .int x1), (2, .int x2), (3, .int x3)] := hl
  have hF : mm_fr w w b (b + 152) := mm_fr.rf
  rw [f_X12_wayLength] at hf
  obtain ⟨hc_this, hp_this_marsh, hp_this_snapshot, hp_this_history, hp_this_ways, hp_this_pairing, hp_this_reader, hp_this_commandText, hp_this_line, hp_this_spareMoves⟩ := hp_this
  refine lv_aload_n hx hb dX12_wayLength_0 rfl (lv_at hl 0 rfl) ?_
  refine mm_get hC hM (k := 0) hc_this rfl inAX12 (by decide) q2_16 rfl dX12_wayLength_1 ?_
  refine mm_get hC hM (k := 1) hp_this_marsh.1 rfl inAX6 (by decide) q1_142 rfl dX12_wayLength_4 ?_
  refine mm_get hC hM (k := 1) (hp_this_marsh.2.2.1).1 rfl inAX3 (by decide) q1_78 rfl dX12_wayLength_7 ?_
  refine lv_aload_n hx hb dX12_wayLength_10 rfl (lv_at hl 0 rfl) ?_
  refine lv_iload_n hx hb dX12_wayLength_11 rfl (lv_at hl 1 rfl) ?_
  obtain ⟨q12, hq12, hf⟩ := mm_bd hf
  refine mm_xVi (rest := [.ref (b + 1 + 3 + 2)]) hC hM (c_X12_existingPlace l hfl hq12 ⟨hc_this, hp_this_marsh, hp_this_snapshot, hp_this_history, hp_this_ways, hp_this_pairing, hp_this_reader, hp_this_commandText, hp_this_line, hp_this_spareMoves⟩) q4_159 q1_1 ykX12_existingPlace q4_156 q4_158 qp_40dca9e3 hc_this rfl ⟨rfl, rfl⟩ ⟨Nat.le_of_ble_eq_true rfl, Nat.le_of_ble_eq_true rfl⟩ rfl hl.1 rfl (Nat.le_of_ble_eq_true rfl) dX12_wayLength_12 ⟨Nat.le_of_ble_eq_true rfl, Nat.le_of_ble_eq_true rfl⟩ (fun E ce qE w12 H locs hM hw hqE hv9 hcl9 => ?_) (fun r w12 H locs hM hw => ?_)
  · obtain ⟨hne, hE, hw⟩ := hw
    rw [if_neg hne] at hf
    rw [hw] at hM
    cases hf
    exact hprop hM hqE hv9 hcl9 ⟨hne, hE, ⟨hc_this, hp_this_marsh, hp_this_snapshot, hp_this_history, hp_this_ways, hp_this_pairing, hp_this_reader, hp_this_commandText, hp_this_line, hp_this_spareMoves⟩, hF⟩ (Nat.le_of_ble_eq_true rfl) (Nat.le_of_ble_eq_true rfl)
  obtain ⟨h0, hr, hw⟩ := hw
  rw [if_pos h0] at hf
  rw [hr]
  rw [hw] at hM
  obtain ⟨hg15, hf⟩ := mm_gd hf
  refine mm_iald hC hM ((hp_this_marsh.2.2.1).2.2.1) hg15 dX12_wayLength_15 ?_
  refine lv_istore (lv' := [(4, .int (marsh_fleet_cells q12.2.toNatClampNeg)), (0, .ref b), (1, .int x1), (2, .int x2), (3, .int x3)]) hx hb dX12_wayLength_16 hl (by decide) rfl (fun ls hl => ?_)
  refine lv_iload_n hx hb dX12_wayLength_18 rfl (lv_at hl 3 rfl) ?_
  refine lv_iload_n hx hb dX12_wayLength_19 rfl (lv_at hl 4 rfl) ?_
  obtain ⟨q20, hq20, hf⟩ := mm_bd hf
  refine mm_xSi (rest := []) hC hM (c_X12_existingCell l hfl hq20) q4_88 q1_1 ykX12_existingCell q4_86 q4_87 ⟨rfl, rfl⟩ ⟨Nat.le_of_ble_eq_true rfl, Nat.le_of_ble_eq_true rfl⟩ rfl hl.1 rfl (Nat.le_of_ble_eq_true rfl) dX12_wayLength_20 ⟨Nat.le_of_ble_eq_true rfl, Nat.le_of_ble_eq_true rfl⟩ (fun E ce qE w20 H locs hM hw hqE hv9 hcl9 => ?_) (fun r w20 H locs hM hw => ?_)
  · obtain ⟨hne, hE, hw⟩ := hw
    rw [if_neg hne] at hf
    rw [hw] at hM
    cases hf
    exact hprop hM hqE hv9 hcl9 ⟨hne, hE, ⟨hc_this, hp_this_marsh, hp_this_snapshot, hp_this_history, hp_this_ways, hp_this_pairing, hp_this_reader, hp_this_commandText, hp_this_line, hp_this_spareMoves⟩, hF⟩ (Nat.le_of_ble_eq_true rfl) (Nat.le_of_ble_eq_true rfl)
  obtain ⟨h0, hr, hw⟩ := hw
  rw [if_pos h0] at hf
  rw [hr]
  rw [hw] at hM
  refine lv_istore (lv' := [(5, .int q20.2), (4, .int (marsh_fleet_cells q12.2.toNatClampNeg)), (0, .ref b), (1, .int x1), (2, .int x2), (3, .int x3)]) hx hb dX12_wayLength_23 hl (by decide) rfl (fun ls hl => ?_)
  refine lv_aload_n hx hb dX12_wayLength_25 rfl (lv_at hl 2 rfl) ?_
  refine mm_get hC hM (k := 3) hc_this rfl inAX12 (by decide) q2_19 rfl dX12_wayLength_26 ?_
  refine lv_aload_n hx hb dX12_wayLength_29 rfl (lv_at hl 2 rfl) ?_
  refine mm_get hC hM (k := 0) hc_this rfl inAX12 (by decide) q2_16 rfl dX12_wayLength_30 ?_
  obtain ⟨q33, hq33, hf⟩ := mm_bd hf
  refine mm_Vv (rest := []) hC hM (c_X11_setPlainTolls l hq33 hp_this_ways hp_this_marsh (by omega)) q2_142 q1_8 ykX11_setPlainTolls q2_139 q2_140 q2_141 hp_this_ways.1 rfl ⟨rfl, rfl⟩ ⟨Nat.le_of_ble_eq_true rfl, Nat.le_of_ble_eq_true rfl⟩ rfl hl.1 rfl (Nat.le_of_ble_eq_true rfl) dX12_wayLength_33 ⟨Nat.le_of_ble_eq_true rfl, Nat.le_of_ble_eq_true rfl⟩ (fun w33 H locs hM hw => ?_)
  obtain ⟨hn_this, hfr⟩ := hw
  have hc_this := hfr.keep hc_this (by omega)
  have hp_this_spareMoves := hfr.keep hp_this_spareMoves (by omega)
  have hp_this_marsh := hp_this_marsh.keep hfr (by omega)
  have hp_this_snapshot := hp_this_snapshot.keep hfr (by omega)
  have hp_this_history := hp_this_history.keep hfr (by omega)
  have hp_this_pairing := hp_this_pairing.keep hfr (by omega)
  have hp_this_reader := hp_this_reader.keep hfr (by omega)
  have hp_this_commandText := hp_this_commandText.keep hfr (by omega)
  have hp_this_line := hp_this_line.keep hfr (by omega)
  have hp_this_ways := hn_this
  have hF := hF.tr (hfr.wide (by omega) (by omega))
  refine lv_aload_n hx hb dX12_wayLength_36 rfl (lv_at hl 2 rfl) ?_
  refine mm_get hC hM (k := 3) hc_this rfl inAX12 (by decide) q2_19 rfl dX12_wayLength_37 ?_
  refine lv_iload hx hb dX12_wayLength_40 (lv_at hl 1 rfl) ?_
  obtain ⟨q42, hq42, hf⟩ := mm_bd hf
  refine mm_Vv (rest := []) hC hM (c_X11_searchByBreadth l hq42 hp_this_ways) q2_147 q1_8 ykX11_searchByBreadth q2_144 q2_145 q2_146 hp_this_ways.1 rfl ⟨rfl, rfl⟩ ⟨Nat.le_of_ble_eq_true rfl, Nat.le_of_ble_eq_true rfl⟩ rfl hl.1 rfl (Nat.le_of_ble_eq_true rfl) dX12_wayLength_42 ⟨Nat.le_of_ble_eq_true rfl, Nat.le_of_ble_eq_true rfl⟩ (fun w42 H locs hM hw => ?_)
  obtain ⟨hn_this, hfr⟩ := hw
  have hc_this := hfr.keep hc_this (by omega)
  have hp_this_spareMoves := hfr.keep hp_this_spareMoves (by omega)
  have hp_this_marsh := hp_this_marsh.keep hfr (by omega)
  have hp_this_snapshot := hp_this_snapshot.keep hfr (by omega)
  have hp_this_history := hp_this_history.keep hfr (by omega)
  have hp_this_pairing := hp_this_pairing.keep hfr (by omega)
  have hp_this_reader := hp_this_reader.keep hfr (by omega)
  have hp_this_commandText := hp_this_commandText.keep hfr (by omega)
  have hp_this_line := hp_this_line.keep hfr (by omega)
  have hp_this_ways := hn_this
  have hF := hF.tr (hfr.wide (by omega) (by omega))
  refine lv_aload_n hx hb dX12_wayLength_45 rfl (lv_at hl 2 rfl) ?_
  refine mm_get hC hM (k := 3) hc_this rfl inAX12 (by decide) q2_19 rfl dX12_wayLength_46 ?_
  refine mm_get hC hM (k := 4) hp_this_ways.1 rfl inAX11 (by decide) q1_192 rfl dX12_wayLength_49 ?_
  refine lv_iload hx hb dX12_wayLength_52 (lv_at hl 0 rfl) ?_
  obtain ⟨hg54, hf⟩ := mm_gd hf
  refine mm_iald hC hM (hp_this_ways.2.2.2.2.1) hg54 dX12_wayLength_54 ?_
  obtain ⟨q55, hq55, hf⟩ := mm_bd hf
  refine mm_xSi (rest := []) hC hM (c_X12_reached l hfl hq55) q5_115 q1_1 ykX12_reached q5_113 q5_114 ⟨rfl, rfl⟩ ⟨Nat.le_of_ble_eq_true rfl, Nat.le_of_ble_eq_true rfl⟩ rfl hl.1 rfl (Nat.le_of_ble_eq_true rfl) dX12_wayLength_55 ⟨Nat.le_of_ble_eq_true rfl, Nat.le_of_ble_eq_true rfl⟩ (fun E ce qE w55 H locs hM hw hqE hv9 hcl9 => ?_) (fun r w55 H locs hM hw => ?_)
  · obtain ⟨hne, hE, hw⟩ := hw
    rw [if_neg hne] at hf
    rw [hw] at hM
    cases hf
    exact hprop hM hqE hv9 hcl9 ⟨hne, hE, ⟨hc_this, hp_this_marsh, hp_this_snapshot, hp_this_history, hp_this_ways, hp_this_pairing, hp_this_reader, hp_this_commandText, hp_this_line, hp_this_spareMoves⟩, hF⟩ (Nat.le_of_ble_eq_true rfl) (Nat.le_of_ble_eq_true rfl)
  obtain ⟨h0, hr, hw⟩ := hw
  rw [if_pos h0] at hf
  rw [hr]
  rw [hw] at hM
  cases hf
  exact hret hM dX12_wayLength_58 rfl ⟨rfl, rfl, ⟨hc_this, hp_this_marsh, hp_this_snapshot, hp_this_history, hp_this_ways, hp_this_pairing, hp_this_reader, hp_this_commandText, hp_this_line, hp_this_spareMoves⟩, hF⟩ (Nat.le_of_ble_eq_true rfl) (Nat.le_of_ble_eq_true rfl)
def f_X12_wayLengthByRounds (K : Nat) (marsh_reeds_states : Nat → Int32) (marsh_fleet_numbers : Nat → Int32) (marsh_fleet_cells : Nat → Int32) (marsh_fleet_count : Int32) (ways_tolls : Nat → Int32) (ways_improved : Nat → Int32) (x1 : Int32) (x2 : Int32) (x3 : Int32) : Option (Nat × Int32 × (Nat → Int32) × (Nat → Int32)) := (f_X12_existingPlace K marsh_fleet_numbers marsh_fleet_count x1).bind fun q12 => if q12.1 = 0 then mm_g (mm_ck q12.2 4) ((f_X12_existingCell x2 x3).bind fun q20 => if q20.1 = 0 then (f_X11_setPlainTolls K ways_tolls marsh_reeds_states).bind fun q33 => (f_X11_searchByRounds K q33 ways_improved (marsh_fleet_cells q12.2.toNatClampNeg)).bind fun q42 => mm_g (mm_ck q20.2 81) ((f_X12_reached (q42 q20.2.toNatClampNeg)).bind fun q55 => if q55.1 = 0 then some (0, q55.2, q33, q42) else some (q55.1, 0, q33, q42)) else some (q20.1, 0, ways_tolls, ways_improved)) else some (q12.1, 0, ways_tolls, ways_improved)
set_option maxHeartbeats 4000000 in
set_option maxRecDepth 100000 in
theorem c_X12_wayLengthByRounds (l : Launch) (hfl : l.stackTraces = false) {G : mm_G} {K : Nat} {w : va_W} {sz : Nat} {b : Nat} {marsh_reeds_states : Nat → Int32} {marsh_reeds_count : Int32} {marsh_reeds_broken : Int32} {marsh_fleet_numbers : Nat → Int32} {marsh_fleet_cells : Nat → Int32} {marsh_fleet_fares : Nat → Int32} {marsh_fleet_count : Int32} {marsh_fleet_nextNumber : Int32} {marsh_fleet_total : Int32} {marsh_fleet_removedFares : Int32} {marsh_fleet_meetings : Int32} {marsh_plans_moves : Nat → Int32} {marsh_plans_lengths : Nat → Int32} {marsh_landings_cells : Nat → Int32} {marsh_landings_count : Int32} {marsh_fogSide : Int32} {snapshot_reeds_states : Nat → Int32} {snapshot_reeds_count : Int32} {snapshot_reeds_broken : Int32} {snapshot_fleet_numbers : Nat → Int32} {snapshot_fleet_cells : Nat → Int32} {snapshot_fleet_fares : Nat → Int32} {snapshot_fleet_count : Int32} {snapshot_fleet_nextNumber : Int32} {snapshot_fleet_total : Int32} {snapshot_fleet_removedFares : Int32} {snapshot_fleet_meetings : Int32} {snapshot_plans_moves : Nat → Int32} {snapshot_plans_lengths : Nat → Int32} {snapshot_landings_cells : Nat → Int32} {snapshot_landings_count : Int32} {snapshot_fogSide : Int32} {history_slots : Nat → mm_MV} {history_free : Int32} {history_count : Int32} {ways_tolls : Nat → Int32} {ways_queue : Nat → Int32} {ways_heap : Nat → Int32} {ways_heapSize : Int32} {ways_found : Nat → Int32} {ways_improved : Nat → Int32} {pairing_costs : Nat → Int32} {pairing_best : Nat → Int32} {reader_kinds : Nat → Int32} {reader_starts : Nat → Int32} {reader_count : Int32} {commandText_signs : Nat → Int32} {commandText_length : Int32} {line_signs : Nat → Int32} {line_length : Int32} {spareMoves : Nat → Int32} {snapshotTaken : Int32} {lastErrorPosition : Int32} {lastFailedCommand : Int32} {x1 : Int32} {x2 : Int32} {x3 : Int32} {X : Nat × Int32 × (Nat → Int32) × (Nat → Int32)} (hf : f_X12_wayLengthByRounds K marsh_reeds_states marsh_fleet_numbers marsh_fleet_cells marsh_fleet_count ways_tolls ways_improved x1 x2 x3 = some X) (hp_this : At12 G w b marsh_reeds_states marsh_reeds_count marsh_reeds_broken marsh_fleet_numbers marsh_fleet_cells marsh_fleet_fares marsh_fleet_count marsh_fleet_nextNumber marsh_fleet_total marsh_fleet_removedFares marsh_fleet_meetings marsh_plans_moves marsh_plans_lengths marsh_landings_cells marsh_landings_count marsh_fogSide snapshot_reeds_states snapshot_reeds_count snapshot_reeds_broken snapshot_fleet_numbers snapshot_fleet_cells snapshot_fleet_fares snapshot_fleet_count snapshot_fleet_nextNumber snapshot_fleet_total snapshot_fleet_removedFares snapshot_fleet_meetings snapshot_plans_moves snapshot_plans_lengths snapshot_landings_cells snapshot_landings_count snapshot_fogSide history_slots history_free history_count ways_tolls ways_queue ways_heap ways_heapSize ways_found ways_improved pairing_costs pairing_best reader_kinds reader_starts reader_count commandText_signs commandText_length line_signs line_length spareMoves snapshotTaken lastErrorPosition lastFailedCommand) : vx_Met l yX12_wayLengthByRounds (Cond.code yX12_wayLengthByRounds cX12_wayLengthByRounds 6 (some .int) :: gAll) ({ frames := 8, cells := 3, slots := 18, locals := 142 }) (va_Pc [.ref b, .int x1, .int x2, .int x3] (mm_Pre G w sz)) (mm_Qi G w sz (fun r w' => X.1 = 0 ∧ r = X.2.1 ∧ At12 G w' b marsh_reeds_states marsh_reeds_count marsh_reeds_broken marsh_fleet_numbers marsh_fleet_cells marsh_fleet_fares marsh_fleet_count marsh_fleet_nextNumber marsh_fleet_total marsh_fleet_removedFares marsh_fleet_meetings marsh_plans_moves marsh_plans_lengths marsh_landings_cells marsh_landings_count marsh_fogSide snapshot_reeds_states snapshot_reeds_count snapshot_reeds_broken snapshot_fleet_numbers snapshot_fleet_cells snapshot_fleet_fares snapshot_fleet_count snapshot_fleet_nextNumber snapshot_fleet_total snapshot_fleet_removedFares snapshot_fleet_meetings snapshot_plans_moves snapshot_plans_lengths snapshot_landings_cells snapshot_landings_count snapshot_fogSide history_slots history_free history_count X.2.2.1 ways_queue ways_heap ways_heapSize ways_found X.2.2.2 pairing_costs pairing_best reader_kinds reader_starts reader_count commandText_signs commandText_length line_signs line_length spareMoves snapshotTaken lastErrorPosition lastFailedCommand ∧ mm_fr w w' b (b + 152))) (mm_QX G w sz (fun E w' => X.1 ≠ 0 ∧ E = mm_ex X.1 ∧ At12 G w' b marsh_reeds_states marsh_reeds_count marsh_reeds_broken marsh_fleet_numbers marsh_fleet_cells marsh_fleet_fares marsh_fleet_count marsh_fleet_nextNumber marsh_fleet_total marsh_fleet_removedFares marsh_fleet_meetings marsh_plans_moves marsh_plans_lengths marsh_landings_cells marsh_landings_count marsh_fogSide snapshot_reeds_states snapshot_reeds_count snapshot_reeds_broken snapshot_fleet_numbers snapshot_fleet_cells snapshot_fleet_fares snapshot_fleet_count snapshot_fleet_nextNumber snapshot_fleet_total snapshot_fleet_removedFares snapshot_fleet_meetings snapshot_plans_moves snapshot_plans_lengths snapshot_landings_cells snapshot_landings_count snapshot_fogSide history_slots history_free history_count X.2.2.1 ways_queue ways_heap ways_heapSize ways_found X.2.2.2 pairing_costs pairing_best reader_kinds reader_starts reader_count commandText_signs commandText_length line_signs line_length spareMoves snapshotTaken lastErrorPosition lastFailedCommand ∧ mm_fr w w' b (b + 152))) 3 18 (va_A w sz) := by
  refine mm_xheadI hfl [.ref b, .int x1, .int x2, .int x3] (by decide +kernel) rfl (Nat.le_of_ble_eq_true rfl) rfl rfl ?_
  intro p e s m args below meth c A Q hsz hC hM hret hprop hthrow ls hl
  have hx := hC.1.1
  have hb := hC.1.2.1
  have hl : lv_has ls 6 [(0, .ref b), (1, .int x1), (2, .int x2), (3, .int x3)] := hl
  have hF : mm_fr w w b (b + 152) := mm_fr.rf
  rw [f_X12_wayLengthByRounds] at hf
  obtain ⟨hc_this, hp_this_marsh, hp_this_snapshot, hp_this_history, hp_this_ways, hp_this_pairing, hp_this_reader, hp_this_commandText, hp_this_line, hp_this_spareMoves⟩ := hp_this
  refine lv_aload_n hx hb dX12_wayLengthByRounds_0 rfl (lv_at hl 0 rfl) ?_
  refine mm_get hC hM (k := 0) hc_this rfl inAX12 (by decide) q2_16 rfl dX12_wayLengthByRounds_1 ?_
  refine mm_get hC hM (k := 1) hp_this_marsh.1 rfl inAX6 (by decide) q1_142 rfl dX12_wayLengthByRounds_4 ?_
  refine mm_get hC hM (k := 1) (hp_this_marsh.2.2.1).1 rfl inAX3 (by decide) q1_78 rfl dX12_wayLengthByRounds_7 ?_
  refine lv_aload_n hx hb dX12_wayLengthByRounds_10 rfl (lv_at hl 0 rfl) ?_
  refine lv_iload_n hx hb dX12_wayLengthByRounds_11 rfl (lv_at hl 1 rfl) ?_
  obtain ⟨q12, hq12, hf⟩ := mm_bd hf
  refine mm_xVi (rest := [.ref (b + 1 + 3 + 2)]) hC hM (c_X12_existingPlace l hfl hq12 ⟨hc_this, hp_this_marsh, hp_this_snapshot, hp_this_history, hp_this_ways, hp_this_pairing, hp_this_reader, hp_this_commandText, hp_this_line, hp_this_spareMoves⟩) q4_159 q1_1 ykX12_existingPlace q4_156 q4_158 qp_40dca9e3 hc_this rfl ⟨rfl, rfl⟩ ⟨Nat.le_of_ble_eq_true rfl, Nat.le_of_ble_eq_true rfl⟩ rfl hl.1 rfl (Nat.le_of_ble_eq_true rfl) dX12_wayLengthByRounds_12 ⟨Nat.le_of_ble_eq_true rfl, Nat.le_of_ble_eq_true rfl⟩ (fun E ce qE w12 H locs hM hw hqE hv9 hcl9 => ?_) (fun r w12 H locs hM hw => ?_)
  · obtain ⟨hne, hE, hw⟩ := hw
    rw [if_neg hne] at hf
    rw [hw] at hM
    cases hf
    exact hprop hM hqE hv9 hcl9 ⟨hne, hE, ⟨hc_this, hp_this_marsh, hp_this_snapshot, hp_this_history, hp_this_ways, hp_this_pairing, hp_this_reader, hp_this_commandText, hp_this_line, hp_this_spareMoves⟩, hF⟩ (Nat.le_of_ble_eq_true rfl) (Nat.le_of_ble_eq_true rfl)
  obtain ⟨h0, hr, hw⟩ := hw
  rw [if_pos h0] at hf
  rw [hr]
  rw [hw] at hM
  obtain ⟨hg15, hf⟩ := mm_gd hf
  refine mm_iald hC hM ((hp_this_marsh.2.2.1).2.2.1) hg15 dX12_wayLengthByRounds_15 ?_
  refine lv_istore (lv' := [(4, .int (marsh_fleet_cells q12.2.toNatClampNeg)), (0, .ref b), (1, .int x1), (2, .int x2), (3, .int x3)]) hx hb dX12_wayLengthByRounds_16 hl (by decide) rfl (fun ls hl => ?_)
  refine lv_iload_n hx hb dX12_wayLengthByRounds_18 rfl (lv_at hl 3 rfl) ?_
  refine lv_iload_n hx hb dX12_wayLengthByRounds_19 rfl (lv_at hl 4 rfl) ?_
  obtain ⟨q20, hq20, hf⟩ := mm_bd hf
  refine mm_xSi (rest := []) hC hM (c_X12_existingCell l hfl hq20) q4_88 q1_1 ykX12_existingCell q4_86 q4_87 ⟨rfl, rfl⟩ ⟨Nat.le_of_ble_eq_true rfl, Nat.le_of_ble_eq_true rfl⟩ rfl hl.1 rfl (Nat.le_of_ble_eq_true rfl) dX12_wayLengthByRounds_20 ⟨Nat.le_of_ble_eq_true rfl, Nat.le_of_ble_eq_true rfl⟩ (fun E ce qE w20 H locs hM hw hqE hv9 hcl9 => ?_) (fun r w20 H locs hM hw => ?_)
  · obtain ⟨hne, hE, hw⟩ := hw
    rw [if_neg hne] at hf
    rw [hw] at hM
    cases hf
    exact hprop hM hqE hv9 hcl9 ⟨hne, hE, ⟨hc_this, hp_this_marsh, hp_this_snapshot, hp_this_history, hp_this_ways, hp_this_pairing, hp_this_reader, hp_this_commandText, hp_this_line, hp_this_spareMoves⟩, hF⟩ (Nat.le_of_ble_eq_true rfl) (Nat.le_of_ble_eq_true rfl)
  obtain ⟨h0, hr, hw⟩ := hw
  rw [if_pos h0] at hf
  rw [hr]
  rw [hw] at hM
  refine lv_istore (lv' := [(5, .int q20.2), (4, .int (marsh_fleet_cells q12.2.toNatClampNeg)), (0, .ref b), (1, .int x1), (2, .int x2), (3, .int x3)]) hx hb dX12_wayLengthByRounds_23 hl (by decide) rfl (fun ls hl => ?_)
  refine lv_aload_n hx hb dX12_wayLengthByRounds_25 rfl (lv_at hl 2 rfl) ?_
  refine mm_get hC hM (k := 3) hc_this rfl inAX12 (by decide) q2_19 rfl dX12_wayLengthByRounds_26 ?_
  refine lv_aload_n hx hb dX12_wayLengthByRounds_29 rfl (lv_at hl 2 rfl) ?_
  refine mm_get hC hM (k := 0) hc_this rfl inAX12 (by decide) q2_16 rfl dX12_wayLengthByRounds_30 ?_
  obtain ⟨q33, hq33, hf⟩ := mm_bd hf
  refine mm_Vv (rest := []) hC hM (c_X11_setPlainTolls l hq33 hp_this_ways hp_this_marsh (by omega)) q2_142 q1_8 ykX11_setPlainTolls q2_139 q2_140 q2_141 hp_this_ways.1 rfl ⟨rfl, rfl⟩ ⟨Nat.le_of_ble_eq_true rfl, Nat.le_of_ble_eq_true rfl⟩ rfl hl.1 rfl (Nat.le_of_ble_eq_true rfl) dX12_wayLengthByRounds_33 ⟨Nat.le_of_ble_eq_true rfl, Nat.le_of_ble_eq_true rfl⟩ (fun w33 H locs hM hw => ?_)
  obtain ⟨hn_this, hfr⟩ := hw
  have hc_this := hfr.keep hc_this (by omega)
  have hp_this_spareMoves := hfr.keep hp_this_spareMoves (by omega)
  have hp_this_marsh := hp_this_marsh.keep hfr (by omega)
  have hp_this_snapshot := hp_this_snapshot.keep hfr (by omega)
  have hp_this_history := hp_this_history.keep hfr (by omega)
  have hp_this_pairing := hp_this_pairing.keep hfr (by omega)
  have hp_this_reader := hp_this_reader.keep hfr (by omega)
  have hp_this_commandText := hp_this_commandText.keep hfr (by omega)
  have hp_this_line := hp_this_line.keep hfr (by omega)
  have hp_this_ways := hn_this
  have hF := hF.tr (hfr.wide (by omega) (by omega))
  refine lv_aload_n hx hb dX12_wayLengthByRounds_36 rfl (lv_at hl 2 rfl) ?_
  refine mm_get hC hM (k := 3) hc_this rfl inAX12 (by decide) q2_19 rfl dX12_wayLengthByRounds_37 ?_
  refine lv_iload hx hb dX12_wayLengthByRounds_40 (lv_at hl 1 rfl) ?_
  obtain ⟨q42, hq42, hf⟩ := mm_bd hf
  refine mm_Vv (rest := []) hC hM (c_X11_searchByRounds l hq42 hp_this_ways) q2_170 q1_8 ykX11_searchByRounds q2_167 q2_168 q2_169 hp_this_ways.1 rfl ⟨rfl, rfl⟩ ⟨Nat.le_of_ble_eq_true rfl, Nat.le_of_ble_eq_true rfl⟩ rfl hl.1 rfl (Nat.le_of_ble_eq_true rfl) dX12_wayLengthByRounds_42 ⟨Nat.le_of_ble_eq_true rfl, Nat.le_of_ble_eq_true rfl⟩ (fun w42 H locs hM hw => ?_)
  obtain ⟨hn_this, hfr⟩ := hw
  have hc_this := hfr.keep hc_this (by omega)
  have hp_this_spareMoves := hfr.keep hp_this_spareMoves (by omega)
  have hp_this_marsh := hp_this_marsh.keep hfr (by omega)
  have hp_this_snapshot := hp_this_snapshot.keep hfr (by omega)
  have hp_this_history := hp_this_history.keep hfr (by omega)
  have hp_this_pairing := hp_this_pairing.keep hfr (by omega)
  have hp_this_reader := hp_this_reader.keep hfr (by omega)
  have hp_this_commandText := hp_this_commandText.keep hfr (by omega)
  have hp_this_line := hp_this_line.keep hfr (by omega)
  have hp_this_ways := hn_this
  have hF := hF.tr (hfr.wide (by omega) (by omega))
  refine lv_aload_n hx hb dX12_wayLengthByRounds_45 rfl (lv_at hl 2 rfl) ?_
  refine mm_get hC hM (k := 3) hc_this rfl inAX12 (by decide) q2_19 rfl dX12_wayLengthByRounds_46 ?_
  refine mm_get hC hM (k := 5) hp_this_ways.1 rfl inAX11 (by decide) q1_194 rfl dX12_wayLengthByRounds_49 ?_
  refine lv_iload hx hb dX12_wayLengthByRounds_52 (lv_at hl 0 rfl) ?_
  obtain ⟨hg54, hf⟩ := mm_gd hf
  refine mm_iald hC hM (hp_this_ways.2.2.2.2.2) hg54 dX12_wayLengthByRounds_54 ?_
  obtain ⟨q55, hq55, hf⟩ := mm_bd hf
  refine mm_xSi (rest := []) hC hM (c_X12_reached l hfl hq55) q5_115 q1_1 ykX12_reached q5_113 q5_114 ⟨rfl, rfl⟩ ⟨Nat.le_of_ble_eq_true rfl, Nat.le_of_ble_eq_true rfl⟩ rfl hl.1 rfl (Nat.le_of_ble_eq_true rfl) dX12_wayLengthByRounds_55 ⟨Nat.le_of_ble_eq_true rfl, Nat.le_of_ble_eq_true rfl⟩ (fun E ce qE w55 H locs hM hw hqE hv9 hcl9 => ?_) (fun r w55 H locs hM hw => ?_)
  · obtain ⟨hne, hE, hw⟩ := hw
    rw [if_neg hne] at hf
    rw [hw] at hM
    cases hf
    exact hprop hM hqE hv9 hcl9 ⟨hne, hE, ⟨hc_this, hp_this_marsh, hp_this_snapshot, hp_this_history, hp_this_ways, hp_this_pairing, hp_this_reader, hp_this_commandText, hp_this_line, hp_this_spareMoves⟩, hF⟩ (Nat.le_of_ble_eq_true rfl) (Nat.le_of_ble_eq_true rfl)
  obtain ⟨h0, hr, hw⟩ := hw
  rw [if_pos h0] at hf
  rw [hr]
  rw [hw] at hM
  cases hf
  exact hret hM dX12_wayLengthByRounds_58 rfl ⟨rfl, rfl, ⟨hc_this, hp_this_marsh, hp_this_snapshot, hp_this_history, hp_this_ways, hp_this_pairing, hp_this_reader, hp_this_commandText, hp_this_line, hp_this_spareMoves⟩, hF⟩ (Nat.le_of_ble_eq_true rfl) (Nat.le_of_ble_eq_true rfl)
def f_X12_wayCost (K : Nat) (marsh_reeds_states : Nat → Int32) (marsh_fleet_numbers : Nat → Int32) (marsh_fleet_cells : Nat → Int32) (marsh_fleet_count : Int32) (marsh_fogSide : Int32) (ways_tolls : Nat → Int32) (ways_heap : Nat → Int32) (ways_heapSize : Int32) (ways_found : Nat → Int32) (x1 : Int32) (x2 : Int32) (x3 : Int32) : Option (Nat × Int32 × (Nat → Int32) × (Nat → Int32) × Int32 × (Nat → Int32)) := (f_X12_existingPlace K marsh_fleet_numbers marsh_fleet_count x1).bind fun q12 => if q12.1 = 0 then mm_g (mm_ck q12.2 4) ((f_X12_existingCell x2 x3).bind fun q20 => if q20.1 = 0 then (f_X11_setFogTolls K ways_tolls marsh_reeds_states marsh_fogSide).bind fun q33 => (f_X11_searchByHeap K q33 ways_heap ways_found (marsh_fleet_cells q12.2.toNatClampNeg)).bind fun q42 => mm_g (mm_ck q20.2 81) ((f_X12_reached (q42.2.2 q20.2.toNatClampNeg)).bind fun q55 => if q55.1 = 0 then some (0, q55.2, q33, q42.1, q42.2.1, q42.2.2) else some (q55.1, 0, q33, q42.1, q42.2.1, q42.2.2)) else some (q20.1, 0, ways_tolls, ways_heap, ways_heapSize, ways_found)) else some (q12.1, 0, ways_tolls, ways_heap, ways_heapSize, ways_found)
set_option maxHeartbeats 4000000 in
set_option maxRecDepth 100000 in
theorem c_X12_wayCost (l : Launch) (hfl : l.stackTraces = false) {G : mm_G} {K : Nat} {w : va_W} {sz : Nat} {b : Nat} {marsh_reeds_states : Nat → Int32} {marsh_reeds_count : Int32} {marsh_reeds_broken : Int32} {marsh_fleet_numbers : Nat → Int32} {marsh_fleet_cells : Nat → Int32} {marsh_fleet_fares : Nat → Int32} {marsh_fleet_count : Int32} {marsh_fleet_nextNumber : Int32} {marsh_fleet_total : Int32} {marsh_fleet_removedFares : Int32} {marsh_fleet_meetings : Int32} {marsh_plans_moves : Nat → Int32} {marsh_plans_lengths : Nat → Int32} {marsh_landings_cells : Nat → Int32} {marsh_landings_count : Int32} {marsh_fogSide : Int32} {snapshot_reeds_states : Nat → Int32} {snapshot_reeds_count : Int32} {snapshot_reeds_broken : Int32} {snapshot_fleet_numbers : Nat → Int32} {snapshot_fleet_cells : Nat → Int32} {snapshot_fleet_fares : Nat → Int32} {snapshot_fleet_count : Int32} {snapshot_fleet_nextNumber : Int32} {snapshot_fleet_total : Int32} {snapshot_fleet_removedFares : Int32} {snapshot_fleet_meetings : Int32} {snapshot_plans_moves : Nat → Int32} {snapshot_plans_lengths : Nat → Int32} {snapshot_landings_cells : Nat → Int32} {snapshot_landings_count : Int32} {snapshot_fogSide : Int32} {history_slots : Nat → mm_MV} {history_free : Int32} {history_count : Int32} {ways_tolls : Nat → Int32} {ways_queue : Nat → Int32} {ways_heap : Nat → Int32} {ways_heapSize : Int32} {ways_found : Nat → Int32} {ways_improved : Nat → Int32} {pairing_costs : Nat → Int32} {pairing_best : Nat → Int32} {reader_kinds : Nat → Int32} {reader_starts : Nat → Int32} {reader_count : Int32} {commandText_signs : Nat → Int32} {commandText_length : Int32} {line_signs : Nat → Int32} {line_length : Int32} {spareMoves : Nat → Int32} {snapshotTaken : Int32} {lastErrorPosition : Int32} {lastFailedCommand : Int32} {x1 : Int32} {x2 : Int32} {x3 : Int32} {X : Nat × Int32 × (Nat → Int32) × (Nat → Int32) × Int32 × (Nat → Int32)} (hf : f_X12_wayCost K marsh_reeds_states marsh_fleet_numbers marsh_fleet_cells marsh_fleet_count marsh_fogSide ways_tolls ways_heap ways_heapSize ways_found x1 x2 x3 = some X) (hp_this : At12 G w b marsh_reeds_states marsh_reeds_count marsh_reeds_broken marsh_fleet_numbers marsh_fleet_cells marsh_fleet_fares marsh_fleet_count marsh_fleet_nextNumber marsh_fleet_total marsh_fleet_removedFares marsh_fleet_meetings marsh_plans_moves marsh_plans_lengths marsh_landings_cells marsh_landings_count marsh_fogSide snapshot_reeds_states snapshot_reeds_count snapshot_reeds_broken snapshot_fleet_numbers snapshot_fleet_cells snapshot_fleet_fares snapshot_fleet_count snapshot_fleet_nextNumber snapshot_fleet_total snapshot_fleet_removedFares snapshot_fleet_meetings snapshot_plans_moves snapshot_plans_lengths snapshot_landings_cells snapshot_landings_count snapshot_fogSide history_slots history_free history_count ways_tolls ways_queue ways_heap ways_heapSize ways_found ways_improved pairing_costs pairing_best reader_kinds reader_starts reader_count commandText_signs commandText_length line_signs line_length spareMoves snapshotTaken lastErrorPosition lastFailedCommand) : vx_Met l yX12_wayCost (Cond.code yX12_wayCost cX12_wayCost 6 (some .int) :: gAll) ({ frames := 8, cells := 3, slots := 18, locals := 142 }) (va_Pc [.ref b, .int x1, .int x2, .int x3] (mm_Pre G w sz)) (mm_Qi G w sz (fun r w' => X.1 = 0 ∧ r = X.2.1 ∧ At12 G w' b marsh_reeds_states marsh_reeds_count marsh_reeds_broken marsh_fleet_numbers marsh_fleet_cells marsh_fleet_fares marsh_fleet_count marsh_fleet_nextNumber marsh_fleet_total marsh_fleet_removedFares marsh_fleet_meetings marsh_plans_moves marsh_plans_lengths marsh_landings_cells marsh_landings_count marsh_fogSide snapshot_reeds_states snapshot_reeds_count snapshot_reeds_broken snapshot_fleet_numbers snapshot_fleet_cells snapshot_fleet_fares snapshot_fleet_count snapshot_fleet_nextNumber snapshot_fleet_total snapshot_fleet_removedFares snapshot_fleet_meetings snapshot_plans_moves snapshot_plans_lengths snapshot_landings_cells snapshot_landings_count snapshot_fogSide history_slots history_free history_count X.2.2.1 ways_queue X.2.2.2.1 X.2.2.2.2.1 X.2.2.2.2.2 ways_improved pairing_costs pairing_best reader_kinds reader_starts reader_count commandText_signs commandText_length line_signs line_length spareMoves snapshotTaken lastErrorPosition lastFailedCommand ∧ mm_fr w w' b (b + 152))) (mm_QX G w sz (fun E w' => X.1 ≠ 0 ∧ E = mm_ex X.1 ∧ At12 G w' b marsh_reeds_states marsh_reeds_count marsh_reeds_broken marsh_fleet_numbers marsh_fleet_cells marsh_fleet_fares marsh_fleet_count marsh_fleet_nextNumber marsh_fleet_total marsh_fleet_removedFares marsh_fleet_meetings marsh_plans_moves marsh_plans_lengths marsh_landings_cells marsh_landings_count marsh_fogSide snapshot_reeds_states snapshot_reeds_count snapshot_reeds_broken snapshot_fleet_numbers snapshot_fleet_cells snapshot_fleet_fares snapshot_fleet_count snapshot_fleet_nextNumber snapshot_fleet_total snapshot_fleet_removedFares snapshot_fleet_meetings snapshot_plans_moves snapshot_plans_lengths snapshot_landings_cells snapshot_landings_count snapshot_fogSide history_slots history_free history_count X.2.2.1 ways_queue X.2.2.2.1 X.2.2.2.2.1 X.2.2.2.2.2 ways_improved pairing_costs pairing_best reader_kinds reader_starts reader_count commandText_signs commandText_length line_signs line_length spareMoves snapshotTaken lastErrorPosition lastFailedCommand ∧ mm_fr w w' b (b + 152))) 3 18 (va_A w sz) := by
  refine mm_xheadI hfl [.ref b, .int x1, .int x2, .int x3] (by decide +kernel) rfl (Nat.le_of_ble_eq_true rfl) rfl rfl ?_
  intro p e s m args below meth c A Q hsz hC hM hret hprop hthrow ls hl
  have hx := hC.1.1
  have hb := hC.1.2.1
  have hl : lv_has ls 6 [(0, .ref b), (1, .int x1), (2, .int x2), (3, .int x3)] := hl
  have hF : mm_fr w w b (b + 152) := mm_fr.rf
  rw [f_X12_wayCost] at hf
  obtain ⟨hc_this, hp_this_marsh, hp_this_snapshot, hp_this_history, hp_this_ways, hp_this_pairing, hp_this_reader, hp_this_commandText, hp_this_line, hp_this_spareMoves⟩ := hp_this
  refine lv_aload_n hx hb dX12_wayCost_0 rfl (lv_at hl 0 rfl) ?_
  refine mm_get hC hM (k := 0) hc_this rfl inAX12 (by decide) q2_16 rfl dX12_wayCost_1 ?_
  refine mm_get hC hM (k := 1) hp_this_marsh.1 rfl inAX6 (by decide) q1_142 rfl dX12_wayCost_4 ?_
  refine mm_get hC hM (k := 1) (hp_this_marsh.2.2.1).1 rfl inAX3 (by decide) q1_78 rfl dX12_wayCost_7 ?_
  refine lv_aload_n hx hb dX12_wayCost_10 rfl (lv_at hl 0 rfl) ?_
  refine lv_iload_n hx hb dX12_wayCost_11 rfl (lv_at hl 1 rfl) ?_
  obtain ⟨q12, hq12, hf⟩ := mm_bd hf
  refine mm_xVi (rest := [.ref (b + 1 + 3 + 2)]) hC hM (c_X12_existingPlace l hfl hq12 ⟨hc_this, hp_this_marsh, hp_this_snapshot, hp_this_history, hp_this_ways, hp_this_pairing, hp_this_reader, hp_this_commandText, hp_this_line, hp_this_spareMoves⟩) q4_159 q1_1 ykX12_existingPlace q4_156 q4_158 qp_40dca9e3 hc_this rfl ⟨rfl, rfl⟩ ⟨Nat.le_of_ble_eq_true rfl, Nat.le_of_ble_eq_true rfl⟩ rfl hl.1 rfl (Nat.le_of_ble_eq_true rfl) dX12_wayCost_12 ⟨Nat.le_of_ble_eq_true rfl, Nat.le_of_ble_eq_true rfl⟩ (fun E ce qE w12 H locs hM hw hqE hv9 hcl9 => ?_) (fun r w12 H locs hM hw => ?_)
  · obtain ⟨hne, hE, hw⟩ := hw
    rw [if_neg hne] at hf
    rw [hw] at hM
    cases hf
    exact hprop hM hqE hv9 hcl9 ⟨hne, hE, ⟨hc_this, hp_this_marsh, hp_this_snapshot, hp_this_history, hp_this_ways, hp_this_pairing, hp_this_reader, hp_this_commandText, hp_this_line, hp_this_spareMoves⟩, hF⟩ (Nat.le_of_ble_eq_true rfl) (Nat.le_of_ble_eq_true rfl)
  obtain ⟨h0, hr, hw⟩ := hw
  rw [if_pos h0] at hf
  rw [hr]
  rw [hw] at hM
  obtain ⟨hg15, hf⟩ := mm_gd hf
  refine mm_iald hC hM ((hp_this_marsh.2.2.1).2.2.1) hg15 dX12_wayCost_15 ?_
  refine lv_istore (lv' := [(4, .int (marsh_fleet_cells q12.2.toNatClampNeg)), (0, .ref b), (1, .int x1), (2, .int x2), (3, .int x3)]) hx hb dX12_wayCost_16 hl (by decide) rfl (fun ls hl => ?_)
  refine lv_iload_n hx hb dX12_wayCost_18 rfl (lv_at hl 3 rfl) ?_
  refine lv_iload_n hx hb dX12_wayCost_19 rfl (lv_at hl 4 rfl) ?_
  obtain ⟨q20, hq20, hf⟩ := mm_bd hf
  refine mm_xSi (rest := []) hC hM (c_X12_existingCell l hfl hq20) q4_88 q1_1 ykX12_existingCell q4_86 q4_87 ⟨rfl, rfl⟩ ⟨Nat.le_of_ble_eq_true rfl, Nat.le_of_ble_eq_true rfl⟩ rfl hl.1 rfl (Nat.le_of_ble_eq_true rfl) dX12_wayCost_20 ⟨Nat.le_of_ble_eq_true rfl, Nat.le_of_ble_eq_true rfl⟩ (fun E ce qE w20 H locs hM hw hqE hv9 hcl9 => ?_) (fun r w20 H locs hM hw => ?_)
  · obtain ⟨hne, hE, hw⟩ := hw
    rw [if_neg hne] at hf
    rw [hw] at hM
    cases hf
    exact hprop hM hqE hv9 hcl9 ⟨hne, hE, ⟨hc_this, hp_this_marsh, hp_this_snapshot, hp_this_history, hp_this_ways, hp_this_pairing, hp_this_reader, hp_this_commandText, hp_this_line, hp_this_spareMoves⟩, hF⟩ (Nat.le_of_ble_eq_true rfl) (Nat.le_of_ble_eq_true rfl)
  obtain ⟨h0, hr, hw⟩ := hw
  rw [if_pos h0] at hf
  rw [hr]
  rw [hw] at hM
  refine lv_istore (lv' := [(5, .int q20.2), (4, .int (marsh_fleet_cells q12.2.toNatClampNeg)), (0, .ref b), (1, .int x1), (2, .int x2), (3, .int x3)]) hx hb dX12_wayCost_23 hl (by decide) rfl (fun ls hl => ?_)
  refine lv_aload_n hx hb dX12_wayCost_25 rfl (lv_at hl 2 rfl) ?_
  refine mm_get hC hM (k := 3) hc_this rfl inAX12 (by decide) q2_19 rfl dX12_wayCost_26 ?_
  refine lv_aload_n hx hb dX12_wayCost_29 rfl (lv_at hl 2 rfl) ?_
  refine mm_get hC hM (k := 0) hc_this rfl inAX12 (by decide) q2_16 rfl dX12_wayCost_30 ?_
  obtain ⟨q33, hq33, hf⟩ := mm_bd hf
  refine mm_Vv (rest := []) hC hM (c_X11_setFogTolls l hq33 hp_this_ways hp_this_marsh (by omega)) q2_182 q1_8 ykX11_setFogTolls q2_179 q2_180 q2_181 hp_this_ways.1 rfl ⟨rfl, rfl⟩ ⟨Nat.le_of_ble_eq_true rfl, Nat.le_of_ble_eq_true rfl⟩ rfl hl.1 rfl (Nat.le_of_ble_eq_true rfl) dX12_wayCost_33 ⟨Nat.le_of_ble_eq_true rfl, Nat.le_of_ble_eq_true rfl⟩ (fun w33 H locs hM hw => ?_)
  obtain ⟨hn_this, hfr⟩ := hw
  have hc_this := hfr.keep hc_this (by omega)
  have hp_this_spareMoves := hfr.keep hp_this_spareMoves (by omega)
  have hp_this_marsh := hp_this_marsh.keep hfr (by omega)
  have hp_this_snapshot := hp_this_snapshot.keep hfr (by omega)
  have hp_this_history := hp_this_history.keep hfr (by omega)
  have hp_this_pairing := hp_this_pairing.keep hfr (by omega)
  have hp_this_reader := hp_this_reader.keep hfr (by omega)
  have hp_this_commandText := hp_this_commandText.keep hfr (by omega)
  have hp_this_line := hp_this_line.keep hfr (by omega)
  have hp_this_ways := hn_this
  have hF := hF.tr (hfr.wide (by omega) (by omega))
  refine lv_aload_n hx hb dX12_wayCost_36 rfl (lv_at hl 2 rfl) ?_
  refine mm_get hC hM (k := 3) hc_this rfl inAX12 (by decide) q2_19 rfl dX12_wayCost_37 ?_
  refine lv_iload hx hb dX12_wayCost_40 (lv_at hl 1 rfl) ?_
  obtain ⟨q42, hq42, hf⟩ := mm_bd hf
  refine mm_Vv (rest := []) hC hM (c_X11_searchByHeap l hq42 hp_this_ways) q2_193 q1_8 ykX11_searchByHeap q2_190 q2_191 q2_192 hp_this_ways.1 rfl ⟨rfl, rfl⟩ ⟨Nat.le_of_ble_eq_true rfl, Nat.le_of_ble_eq_true rfl⟩ rfl hl.1 rfl (Nat.le_of_ble_eq_true rfl) dX12_wayCost_42 ⟨Nat.le_of_ble_eq_true rfl, Nat.le_of_ble_eq_true rfl⟩ (fun w42 H locs hM hw => ?_)
  obtain ⟨hn_this, hfr⟩ := hw
  have hc_this := hfr.keep hc_this (by omega)
  have hp_this_spareMoves := hfr.keep hp_this_spareMoves (by omega)
  have hp_this_marsh := hp_this_marsh.keep hfr (by omega)
  have hp_this_snapshot := hp_this_snapshot.keep hfr (by omega)
  have hp_this_history := hp_this_history.keep hfr (by omega)
  have hp_this_pairing := hp_this_pairing.keep hfr (by omega)
  have hp_this_reader := hp_this_reader.keep hfr (by omega)
  have hp_this_commandText := hp_this_commandText.keep hfr (by omega)
  have hp_this_line := hp_this_line.keep hfr (by omega)
  have hp_this_ways := hn_this
  have hF := hF.tr (hfr.wide (by omega) (by omega))
  refine lv_aload_n hx hb dX12_wayCost_45 rfl (lv_at hl 2 rfl) ?_
  refine mm_get hC hM (k := 3) hc_this rfl inAX12 (by decide) q2_19 rfl dX12_wayCost_46 ?_
  refine mm_get hC hM (k := 4) hp_this_ways.1 rfl inAX11 (by decide) q1_192 rfl dX12_wayCost_49 ?_
  refine lv_iload hx hb dX12_wayCost_52 (lv_at hl 0 rfl) ?_
  obtain ⟨hg54, hf⟩ := mm_gd hf
  refine mm_iald hC hM (hp_this_ways.2.2.2.2.1) hg54 dX12_wayCost_54 ?_
  obtain ⟨q55, hq55, hf⟩ := mm_bd hf
  refine mm_xSi (rest := []) hC hM (c_X12_reached l hfl hq55) q5_115 q1_1 ykX12_reached q5_113 q5_114 ⟨rfl, rfl⟩ ⟨Nat.le_of_ble_eq_true rfl, Nat.le_of_ble_eq_true rfl⟩ rfl hl.1 rfl (Nat.le_of_ble_eq_true rfl) dX12_wayCost_55 ⟨Nat.le_of_ble_eq_true rfl, Nat.le_of_ble_eq_true rfl⟩ (fun E ce qE w55 H locs hM hw hqE hv9 hcl9 => ?_) (fun r w55 H locs hM hw => ?_)
  · obtain ⟨hne, hE, hw⟩ := hw
    rw [if_neg hne] at hf
    rw [hw] at hM
    cases hf
    exact hprop hM hqE hv9 hcl9 ⟨hne, hE, ⟨hc_this, hp_this_marsh, hp_this_snapshot, hp_this_history, hp_this_ways, hp_this_pairing, hp_this_reader, hp_this_commandText, hp_this_line, hp_this_spareMoves⟩, hF⟩ (Nat.le_of_ble_eq_true rfl) (Nat.le_of_ble_eq_true rfl)
  obtain ⟨h0, hr, hw⟩ := hw
  rw [if_pos h0] at hf
  rw [hr]
  rw [hw] at hM
  cases hf
  exact hret hM dX12_wayCost_58 rfl ⟨rfl, rfl, ⟨hc_this, hp_this_marsh, hp_this_snapshot, hp_this_history, hp_this_ways, hp_this_pairing, hp_this_reader, hp_this_commandText, hp_this_line, hp_this_spareMoves⟩, hF⟩ (Nat.le_of_ble_eq_true rfl) (Nat.le_of_ble_eq_true rfl)
def f_X12_wayCostByRounds (K : Nat) (marsh_reeds_states : Nat → Int32) (marsh_fleet_numbers : Nat → Int32) (marsh_fleet_cells : Nat → Int32) (marsh_fleet_count : Int32) (marsh_fogSide : Int32) (ways_tolls : Nat → Int32) (ways_improved : Nat → Int32) (x1 : Int32) (x2 : Int32) (x3 : Int32) : Option (Nat × Int32 × (Nat → Int32) × (Nat → Int32)) := (f_X12_existingPlace K marsh_fleet_numbers marsh_fleet_count x1).bind fun q12 => if q12.1 = 0 then mm_g (mm_ck q12.2 4) ((f_X12_existingCell x2 x3).bind fun q20 => if q20.1 = 0 then (f_X11_setFogTolls K ways_tolls marsh_reeds_states marsh_fogSide).bind fun q33 => (f_X11_searchByRounds K q33 ways_improved (marsh_fleet_cells q12.2.toNatClampNeg)).bind fun q42 => mm_g (mm_ck q20.2 81) ((f_X12_reached (q42 q20.2.toNatClampNeg)).bind fun q55 => if q55.1 = 0 then some (0, q55.2, q33, q42) else some (q55.1, 0, q33, q42)) else some (q20.1, 0, ways_tolls, ways_improved)) else some (q12.1, 0, ways_tolls, ways_improved)
set_option maxHeartbeats 4000000 in
set_option maxRecDepth 100000 in
theorem c_X12_wayCostByRounds (l : Launch) (hfl : l.stackTraces = false) {G : mm_G} {K : Nat} {w : va_W} {sz : Nat} {b : Nat} {marsh_reeds_states : Nat → Int32} {marsh_reeds_count : Int32} {marsh_reeds_broken : Int32} {marsh_fleet_numbers : Nat → Int32} {marsh_fleet_cells : Nat → Int32} {marsh_fleet_fares : Nat → Int32} {marsh_fleet_count : Int32} {marsh_fleet_nextNumber : Int32} {marsh_fleet_total : Int32} {marsh_fleet_removedFares : Int32} {marsh_fleet_meetings : Int32} {marsh_plans_moves : Nat → Int32} {marsh_plans_lengths : Nat → Int32} {marsh_landings_cells : Nat → Int32} {marsh_landings_count : Int32} {marsh_fogSide : Int32} {snapshot_reeds_states : Nat → Int32} {snapshot_reeds_count : Int32} {snapshot_reeds_broken : Int32} {snapshot_fleet_numbers : Nat → Int32} {snapshot_fleet_cells : Nat → Int32} {snapshot_fleet_fares : Nat → Int32} {snapshot_fleet_count : Int32} {snapshot_fleet_nextNumber : Int32} {snapshot_fleet_total : Int32} {snapshot_fleet_removedFares : Int32} {snapshot_fleet_meetings : Int32} {snapshot_plans_moves : Nat → Int32} {snapshot_plans_lengths : Nat → Int32} {snapshot_landings_cells : Nat → Int32} {snapshot_landings_count : Int32} {snapshot_fogSide : Int32} {history_slots : Nat → mm_MV} {history_free : Int32} {history_count : Int32} {ways_tolls : Nat → Int32} {ways_queue : Nat → Int32} {ways_heap : Nat → Int32} {ways_heapSize : Int32} {ways_found : Nat → Int32} {ways_improved : Nat → Int32} {pairing_costs : Nat → Int32} {pairing_best : Nat → Int32} {reader_kinds : Nat → Int32} {reader_starts : Nat → Int32} {reader_count : Int32} {commandText_signs : Nat → Int32} {commandText_length : Int32} {line_signs : Nat → Int32} {line_length : Int32} {spareMoves : Nat → Int32} {snapshotTaken : Int32} {lastErrorPosition : Int32} {lastFailedCommand : Int32} {x1 : Int32} {x2 : Int32} {x3 : Int32} {X : Nat × Int32 × (Nat → Int32) × (Nat → Int32)} (hf : f_X12_wayCostByRounds K marsh_reeds_states marsh_fleet_numbers marsh_fleet_cells marsh_fleet_count marsh_fogSide ways_tolls ways_improved x1 x2 x3 = some X) (hp_this : At12 G w b marsh_reeds_states marsh_reeds_count marsh_reeds_broken marsh_fleet_numbers marsh_fleet_cells marsh_fleet_fares marsh_fleet_count marsh_fleet_nextNumber marsh_fleet_total marsh_fleet_removedFares marsh_fleet_meetings marsh_plans_moves marsh_plans_lengths marsh_landings_cells marsh_landings_count marsh_fogSide snapshot_reeds_states snapshot_reeds_count snapshot_reeds_broken snapshot_fleet_numbers snapshot_fleet_cells snapshot_fleet_fares snapshot_fleet_count snapshot_fleet_nextNumber snapshot_fleet_total snapshot_fleet_removedFares snapshot_fleet_meetings snapshot_plans_moves snapshot_plans_lengths snapshot_landings_cells snapshot_landings_count snapshot_fogSide history_slots history_free history_count ways_tolls ways_queue ways_heap ways_heapSize ways_found ways_improved pairing_costs pairing_best reader_kinds reader_starts reader_count commandText_signs commandText_length line_signs line_length spareMoves snapshotTaken lastErrorPosition lastFailedCommand) : vx_Met l yX12_wayCostByRounds (Cond.code yX12_wayCostByRounds cX12_wayCostByRounds 6 (some .int) :: gAll) ({ frames := 8, cells := 3, slots := 18, locals := 142 }) (va_Pc [.ref b, .int x1, .int x2, .int x3] (mm_Pre G w sz)) (mm_Qi G w sz (fun r w' => X.1 = 0 ∧ r = X.2.1 ∧ At12 G w' b marsh_reeds_states marsh_reeds_count marsh_reeds_broken marsh_fleet_numbers marsh_fleet_cells marsh_fleet_fares marsh_fleet_count marsh_fleet_nextNumber marsh_fleet_total marsh_fleet_removedFares marsh_fleet_meetings marsh_plans_moves marsh_plans_lengths marsh_landings_cells marsh_landings_count marsh_fogSide snapshot_reeds_states snapshot_reeds_count snapshot_reeds_broken snapshot_fleet_numbers snapshot_fleet_cells snapshot_fleet_fares snapshot_fleet_count snapshot_fleet_nextNumber snapshot_fleet_total snapshot_fleet_removedFares snapshot_fleet_meetings snapshot_plans_moves snapshot_plans_lengths snapshot_landings_cells snapshot_landings_count snapshot_fogSide history_slots history_free history_count X.2.2.1 ways_queue ways_heap ways_heapSize ways_found X.2.2.2 pairing_costs pairing_best reader_kinds reader_starts reader_count commandText_signs commandText_length line_signs line_length spareMoves snapshotTaken lastErrorPosition lastFailedCommand ∧ mm_fr w w' b (b + 152))) (mm_QX G w sz (fun E w' => X.1 ≠ 0 ∧ E = mm_ex X.1 ∧ At12 G w' b marsh_reeds_states marsh_reeds_count marsh_reeds_broken marsh_fleet_numbers marsh_fleet_cells marsh_fleet_fares marsh_fleet_count marsh_fleet_nextNumber marsh_fleet_total marsh_fleet_removedFares marsh_fleet_meetings marsh_plans_moves marsh_plans_lengths marsh_landings_cells marsh_landings_count marsh_fogSide snapshot_reeds_states snapshot_reeds_count snapshot_reeds_broken snapshot_fleet_numbers snapshot_fleet_cells snapshot_fleet_fares snapshot_fleet_count snapshot_fleet_nextNumber snapshot_fleet_total snapshot_fleet_removedFares snapshot_fleet_meetings snapshot_plans_moves snapshot_plans_lengths snapshot_landings_cells snapshot_landings_count snapshot_fogSide history_slots history_free history_count X.2.2.1 ways_queue ways_heap ways_heapSize ways_found X.2.2.2 pairing_costs pairing_best reader_kinds reader_starts reader_count commandText_signs commandText_length line_signs line_length spareMoves snapshotTaken lastErrorPosition lastFailedCommand ∧ mm_fr w w' b (b + 152))) 3 18 (va_A w sz) := by
  refine mm_xheadI hfl [.ref b, .int x1, .int x2, .int x3] (by decide +kernel) rfl (Nat.le_of_ble_eq_true rfl) rfl rfl ?_
  intro p e s m args below meth c A Q hsz hC hM hret hprop hthrow ls hl
  have hx := hC.1.1
  have hb := hC.1.2.1
  have hl : lv_has ls 6 [(0, .ref b), (1, .int x1), (2, .int x2), (3, .int x3)] := hl
  have hF : mm_fr w w b (b + 152) := mm_fr.rf
  rw [f_X12_wayCostByRounds] at hf
  obtain ⟨hc_this, hp_this_marsh, hp_this_snapshot, hp_this_history, hp_this_ways, hp_this_pairing, hp_this_reader, hp_this_commandText, hp_this_line, hp_this_spareMoves⟩ := hp_this
  refine lv_aload_n hx hb dX12_wayCostByRounds_0 rfl (lv_at hl 0 rfl) ?_
  refine mm_get hC hM (k := 0) hc_this rfl inAX12 (by decide) q2_16 rfl dX12_wayCostByRounds_1 ?_
  refine mm_get hC hM (k := 1) hp_this_marsh.1 rfl inAX6 (by decide) q1_142 rfl dX12_wayCostByRounds_4 ?_
  refine mm_get hC hM (k := 1) (hp_this_marsh.2.2.1).1 rfl inAX3 (by decide) q1_78 rfl dX12_wayCostByRounds_7 ?_
  refine lv_aload_n hx hb dX12_wayCostByRounds_10 rfl (lv_at hl 0 rfl) ?_
  refine lv_iload_n hx hb dX12_wayCostByRounds_11 rfl (lv_at hl 1 rfl) ?_
  obtain ⟨q12, hq12, hf⟩ := mm_bd hf
  refine mm_xVi (rest := [.ref (b + 1 + 3 + 2)]) hC hM (c_X12_existingPlace l hfl hq12 ⟨hc_this, hp_this_marsh, hp_this_snapshot, hp_this_history, hp_this_ways, hp_this_pairing, hp_this_reader, hp_this_commandText, hp_this_line, hp_this_spareMoves⟩) q4_159 q1_1 ykX12_existingPlace q4_156 q4_158 qp_40dca9e3 hc_this rfl ⟨rfl, rfl⟩ ⟨Nat.le_of_ble_eq_true rfl, Nat.le_of_ble_eq_true rfl⟩ rfl hl.1 rfl (Nat.le_of_ble_eq_true rfl) dX12_wayCostByRounds_12 ⟨Nat.le_of_ble_eq_true rfl, Nat.le_of_ble_eq_true rfl⟩ (fun E ce qE w12 H locs hM hw hqE hv9 hcl9 => ?_) (fun r w12 H locs hM hw => ?_)
  · obtain ⟨hne, hE, hw⟩ := hw
    rw [if_neg hne] at hf
    rw [hw] at hM
    cases hf
    exact hprop hM hqE hv9 hcl9 ⟨hne, hE, ⟨hc_this, hp_this_marsh, hp_this_snapshot, hp_this_history, hp_this_ways, hp_this_pairing, hp_this_reader, hp_this_commandText, hp_this_line, hp_this_spareMoves⟩, hF⟩ (Nat.le_of_ble_eq_true rfl) (Nat.le_of_ble_eq_true rfl)
  obtain ⟨h0, hr, hw⟩ := hw
  rw [if_pos h0] at hf
  rw [hr]
  rw [hw] at hM
  obtain ⟨hg15, hf⟩ := mm_gd hf
  refine mm_iald hC hM ((hp_this_marsh.2.2.1).2.2.1) hg15 dX12_wayCostByRounds_15 ?_
  refine lv_istore (lv' := [(4, .int (marsh_fleet_cells q12.2.toNatClampNeg)), (0, .ref b), (1, .int x1), (2, .int x2), (3, .int x3)]) hx hb dX12_wayCostByRounds_16 hl (by decide) rfl (fun ls hl => ?_)
  refine lv_iload_n hx hb dX12_wayCostByRounds_18 rfl (lv_at hl 3 rfl) ?_
  refine lv_iload_n hx hb dX12_wayCostByRounds_19 rfl (lv_at hl 4 rfl) ?_
  obtain ⟨q20, hq20, hf⟩ := mm_bd hf
  refine mm_xSi (rest := []) hC hM (c_X12_existingCell l hfl hq20) q4_88 q1_1 ykX12_existingCell q4_86 q4_87 ⟨rfl, rfl⟩ ⟨Nat.le_of_ble_eq_true rfl, Nat.le_of_ble_eq_true rfl⟩ rfl hl.1 rfl (Nat.le_of_ble_eq_true rfl) dX12_wayCostByRounds_20 ⟨Nat.le_of_ble_eq_true rfl, Nat.le_of_ble_eq_true rfl⟩ (fun E ce qE w20 H locs hM hw hqE hv9 hcl9 => ?_) (fun r w20 H locs hM hw => ?_)
  · obtain ⟨hne, hE, hw⟩ := hw
    rw [if_neg hne] at hf
    rw [hw] at hM
    cases hf
    exact hprop hM hqE hv9 hcl9 ⟨hne, hE, ⟨hc_this, hp_this_marsh, hp_this_snapshot, hp_this_history, hp_this_ways, hp_this_pairing, hp_this_reader, hp_this_commandText, hp_this_line, hp_this_spareMoves⟩, hF⟩ (Nat.le_of_ble_eq_true rfl) (Nat.le_of_ble_eq_true rfl)
  obtain ⟨h0, hr, hw⟩ := hw
  rw [if_pos h0] at hf
  rw [hr]
  rw [hw] at hM
  refine lv_istore (lv' := [(5, .int q20.2), (4, .int (marsh_fleet_cells q12.2.toNatClampNeg)), (0, .ref b), (1, .int x1), (2, .int x2), (3, .int x3)]) hx hb dX12_wayCostByRounds_23 hl (by decide) rfl (fun ls hl => ?_)
  refine lv_aload_n hx hb dX12_wayCostByRounds_25 rfl (lv_at hl 2 rfl) ?_
  refine mm_get hC hM (k := 3) hc_this rfl inAX12 (by decide) q2_19 rfl dX12_wayCostByRounds_26 ?_
  refine lv_aload_n hx hb dX12_wayCostByRounds_29 rfl (lv_at hl 2 rfl) ?_
  refine mm_get hC hM (k := 0) hc_this rfl inAX12 (by decide) q2_16 rfl dX12_wayCostByRounds_30 ?_
  obtain ⟨q33, hq33, hf⟩ := mm_bd hf
  refine mm_Vv (rest := []) hC hM (c_X11_setFogTolls l hq33 hp_this_ways hp_this_marsh (by omega)) q2_182 q1_8 ykX11_setFogTolls q2_179 q2_180 q2_181 hp_this_ways.1 rfl ⟨rfl, rfl⟩ ⟨Nat.le_of_ble_eq_true rfl, Nat.le_of_ble_eq_true rfl⟩ rfl hl.1 rfl (Nat.le_of_ble_eq_true rfl) dX12_wayCostByRounds_33 ⟨Nat.le_of_ble_eq_true rfl, Nat.le_of_ble_eq_true rfl⟩ (fun w33 H locs hM hw => ?_)
  obtain ⟨hn_this, hfr⟩ := hw
  have hc_this := hfr.keep hc_this (by omega)
  have hp_this_spareMoves := hfr.keep hp_this_spareMoves (by omega)
  have hp_this_marsh := hp_this_marsh.keep hfr (by omega)
  have hp_this_snapshot := hp_this_snapshot.keep hfr (by omega)
  have hp_this_history := hp_this_history.keep hfr (by omega)
  have hp_this_pairing := hp_this_pairing.keep hfr (by omega)
  have hp_this_reader := hp_this_reader.keep hfr (by omega)
  have hp_this_commandText := hp_this_commandText.keep hfr (by omega)
  have hp_this_line := hp_this_line.keep hfr (by omega)
  have hp_this_ways := hn_this
  have hF := hF.tr (hfr.wide (by omega) (by omega))
  refine lv_aload_n hx hb dX12_wayCostByRounds_36 rfl (lv_at hl 2 rfl) ?_
  refine mm_get hC hM (k := 3) hc_this rfl inAX12 (by decide) q2_19 rfl dX12_wayCostByRounds_37 ?_
  refine lv_iload hx hb dX12_wayCostByRounds_40 (lv_at hl 1 rfl) ?_
  obtain ⟨q42, hq42, hf⟩ := mm_bd hf
  refine mm_Vv (rest := []) hC hM (c_X11_searchByRounds l hq42 hp_this_ways) q2_170 q1_8 ykX11_searchByRounds q2_167 q2_168 q2_169 hp_this_ways.1 rfl ⟨rfl, rfl⟩ ⟨Nat.le_of_ble_eq_true rfl, Nat.le_of_ble_eq_true rfl⟩ rfl hl.1 rfl (Nat.le_of_ble_eq_true rfl) dX12_wayCostByRounds_42 ⟨Nat.le_of_ble_eq_true rfl, Nat.le_of_ble_eq_true rfl⟩ (fun w42 H locs hM hw => ?_)
  obtain ⟨hn_this, hfr⟩ := hw
  have hc_this := hfr.keep hc_this (by omega)
  have hp_this_spareMoves := hfr.keep hp_this_spareMoves (by omega)
  have hp_this_marsh := hp_this_marsh.keep hfr (by omega)
  have hp_this_snapshot := hp_this_snapshot.keep hfr (by omega)
  have hp_this_history := hp_this_history.keep hfr (by omega)
  have hp_this_pairing := hp_this_pairing.keep hfr (by omega)
  have hp_this_reader := hp_this_reader.keep hfr (by omega)
  have hp_this_commandText := hp_this_commandText.keep hfr (by omega)
  have hp_this_line := hp_this_line.keep hfr (by omega)
  have hp_this_ways := hn_this
  have hF := hF.tr (hfr.wide (by omega) (by omega))
  refine lv_aload_n hx hb dX12_wayCostByRounds_45 rfl (lv_at hl 2 rfl) ?_
  refine mm_get hC hM (k := 3) hc_this rfl inAX12 (by decide) q2_19 rfl dX12_wayCostByRounds_46 ?_
  refine mm_get hC hM (k := 5) hp_this_ways.1 rfl inAX11 (by decide) q1_194 rfl dX12_wayCostByRounds_49 ?_
  refine lv_iload hx hb dX12_wayCostByRounds_52 (lv_at hl 0 rfl) ?_
  obtain ⟨hg54, hf⟩ := mm_gd hf
  refine mm_iald hC hM (hp_this_ways.2.2.2.2.2) hg54 dX12_wayCostByRounds_54 ?_
  obtain ⟨q55, hq55, hf⟩ := mm_bd hf
  refine mm_xSi (rest := []) hC hM (c_X12_reached l hfl hq55) q5_115 q1_1 ykX12_reached q5_113 q5_114 ⟨rfl, rfl⟩ ⟨Nat.le_of_ble_eq_true rfl, Nat.le_of_ble_eq_true rfl⟩ rfl hl.1 rfl (Nat.le_of_ble_eq_true rfl) dX12_wayCostByRounds_55 ⟨Nat.le_of_ble_eq_true rfl, Nat.le_of_ble_eq_true rfl⟩ (fun E ce qE w55 H locs hM hw hqE hv9 hcl9 => ?_) (fun r w55 H locs hM hw => ?_)
  · obtain ⟨hne, hE, hw⟩ := hw
    rw [if_neg hne] at hf
    rw [hw] at hM
    cases hf
    exact hprop hM hqE hv9 hcl9 ⟨hne, hE, ⟨hc_this, hp_this_marsh, hp_this_snapshot, hp_this_history, hp_this_ways, hp_this_pairing, hp_this_reader, hp_this_commandText, hp_this_line, hp_this_spareMoves⟩, hF⟩ (Nat.le_of_ble_eq_true rfl) (Nat.le_of_ble_eq_true rfl)
  obtain ⟨h0, hr, hw⟩ := hw
  rw [if_pos h0] at hf
  rw [hr]
  rw [hw] at hM
  cases hf
  exact hret hM dX12_wayCostByRounds_58 rfl ⟨rfl, rfl, ⟨hc_this, hp_this_marsh, hp_this_snapshot, hp_this_history, hp_this_ways, hp_this_pairing, hp_this_reader, hp_this_commandText, hp_this_line, hp_this_spareMoves⟩, hF⟩ (Nat.le_of_ble_eq_true rfl) (Nat.le_of_ble_eq_true rfl)
def f_X12_breakingEffort (K : Nat) (marsh_reeds_states : Nat → Int32) (marsh_fleet_numbers : Nat → Int32) (marsh_fleet_cells : Nat → Int32) (marsh_fleet_count : Int32) (ways_tolls : Nat → Int32) (ways_heap : Nat → Int32) (ways_heapSize : Int32) (ways_found : Nat → Int32) (x1 : Int32) (x2 : Int32) (x3 : Int32) : Option (Nat × Int32 × (Nat → Int32) × (Nat → Int32) × Int32 × (Nat → Int32)) := (f_X12_existingPlace K marsh_fleet_numbers marsh_fleet_count x1).bind fun q12 => if q12.1 = 0 then mm_g (mm_ck q12.2 4) ((f_X12_existingCell x2 x3).bind fun q20 => if q20.1 = 0 then (f_X11_setReedTolls K ways_tolls marsh_reeds_states).bind fun q33 => (f_X11_searchByHeap K q33 ways_heap ways_found (marsh_fleet_cells q12.2.toNatClampNeg)).bind fun q42 => mm_g (mm_ck q20.2 81) (some (0, (q42.2.2 q20.2.toNatClampNeg), q33, q42.1, q42.2.1, q42.2.2)) else some (q20.1, 0, ways_tolls, ways_heap, ways_heapSize, ways_found)) else some (q12.1, 0, ways_tolls, ways_heap, ways_heapSize, ways_found)
set_option maxHeartbeats 4000000 in
set_option maxRecDepth 100000 in
theorem c_X12_breakingEffort (l : Launch) (hfl : l.stackTraces = false) {G : mm_G} {K : Nat} {w : va_W} {sz : Nat} {b : Nat} {marsh_reeds_states : Nat → Int32} {marsh_reeds_count : Int32} {marsh_reeds_broken : Int32} {marsh_fleet_numbers : Nat → Int32} {marsh_fleet_cells : Nat → Int32} {marsh_fleet_fares : Nat → Int32} {marsh_fleet_count : Int32} {marsh_fleet_nextNumber : Int32} {marsh_fleet_total : Int32} {marsh_fleet_removedFares : Int32} {marsh_fleet_meetings : Int32} {marsh_plans_moves : Nat → Int32} {marsh_plans_lengths : Nat → Int32} {marsh_landings_cells : Nat → Int32} {marsh_landings_count : Int32} {marsh_fogSide : Int32} {snapshot_reeds_states : Nat → Int32} {snapshot_reeds_count : Int32} {snapshot_reeds_broken : Int32} {snapshot_fleet_numbers : Nat → Int32} {snapshot_fleet_cells : Nat → Int32} {snapshot_fleet_fares : Nat → Int32} {snapshot_fleet_count : Int32} {snapshot_fleet_nextNumber : Int32} {snapshot_fleet_total : Int32} {snapshot_fleet_removedFares : Int32} {snapshot_fleet_meetings : Int32} {snapshot_plans_moves : Nat → Int32} {snapshot_plans_lengths : Nat → Int32} {snapshot_landings_cells : Nat → Int32} {snapshot_landings_count : Int32} {snapshot_fogSide : Int32} {history_slots : Nat → mm_MV} {history_free : Int32} {history_count : Int32} {ways_tolls : Nat → Int32} {ways_queue : Nat → Int32} {ways_heap : Nat → Int32} {ways_heapSize : Int32} {ways_found : Nat → Int32} {ways_improved : Nat → Int32} {pairing_costs : Nat → Int32} {pairing_best : Nat → Int32} {reader_kinds : Nat → Int32} {reader_starts : Nat → Int32} {reader_count : Int32} {commandText_signs : Nat → Int32} {commandText_length : Int32} {line_signs : Nat → Int32} {line_length : Int32} {spareMoves : Nat → Int32} {snapshotTaken : Int32} {lastErrorPosition : Int32} {lastFailedCommand : Int32} {x1 : Int32} {x2 : Int32} {x3 : Int32} {X : Nat × Int32 × (Nat → Int32) × (Nat → Int32) × Int32 × (Nat → Int32)} (hf : f_X12_breakingEffort K marsh_reeds_states marsh_fleet_numbers marsh_fleet_cells marsh_fleet_count ways_tolls ways_heap ways_heapSize ways_found x1 x2 x3 = some X) (hp_this : At12 G w b marsh_reeds_states marsh_reeds_count marsh_reeds_broken marsh_fleet_numbers marsh_fleet_cells marsh_fleet_fares marsh_fleet_count marsh_fleet_nextNumber marsh_fleet_total marsh_fleet_removedFares marsh_fleet_meetings marsh_plans_moves marsh_plans_lengths marsh_landings_cells marsh_landings_count marsh_fogSide snapshot_reeds_states snapshot_reeds_count snapshot_reeds_broken snapshot_fleet_numbers snapshot_fleet_cells snapshot_fleet_fares snapshot_fleet_count snapshot_fleet_nextNumber snapshot_fleet_total snapshot_fleet_removedFares snapshot_fleet_meetings snapshot_plans_moves snapshot_plans_lengths snapshot_landings_cells snapshot_landings_count snapshot_fogSide history_slots history_free history_count ways_tolls ways_queue ways_heap ways_heapSize ways_found ways_improved pairing_costs pairing_best reader_kinds reader_starts reader_count commandText_signs commandText_length line_signs line_length spareMoves snapshotTaken lastErrorPosition lastFailedCommand) : vx_Met l yX12_breakingEffort (Cond.code yX12_breakingEffort cX12_breakingEffort 6 (some .int) :: gAll) ({ frames := 8, cells := 2, slots := 12, locals := 142 }) (va_Pc [.ref b, .int x1, .int x2, .int x3] (mm_Pre G w sz)) (mm_Qi G w sz (fun r w' => X.1 = 0 ∧ r = X.2.1 ∧ At12 G w' b marsh_reeds_states marsh_reeds_count marsh_reeds_broken marsh_fleet_numbers marsh_fleet_cells marsh_fleet_fares marsh_fleet_count marsh_fleet_nextNumber marsh_fleet_total marsh_fleet_removedFares marsh_fleet_meetings marsh_plans_moves marsh_plans_lengths marsh_landings_cells marsh_landings_count marsh_fogSide snapshot_reeds_states snapshot_reeds_count snapshot_reeds_broken snapshot_fleet_numbers snapshot_fleet_cells snapshot_fleet_fares snapshot_fleet_count snapshot_fleet_nextNumber snapshot_fleet_total snapshot_fleet_removedFares snapshot_fleet_meetings snapshot_plans_moves snapshot_plans_lengths snapshot_landings_cells snapshot_landings_count snapshot_fogSide history_slots history_free history_count X.2.2.1 ways_queue X.2.2.2.1 X.2.2.2.2.1 X.2.2.2.2.2 ways_improved pairing_costs pairing_best reader_kinds reader_starts reader_count commandText_signs commandText_length line_signs line_length spareMoves snapshotTaken lastErrorPosition lastFailedCommand ∧ mm_fr w w' b (b + 152))) (mm_QX G w sz (fun E w' => X.1 ≠ 0 ∧ E = mm_ex X.1 ∧ At12 G w' b marsh_reeds_states marsh_reeds_count marsh_reeds_broken marsh_fleet_numbers marsh_fleet_cells marsh_fleet_fares marsh_fleet_count marsh_fleet_nextNumber marsh_fleet_total marsh_fleet_removedFares marsh_fleet_meetings marsh_plans_moves marsh_plans_lengths marsh_landings_cells marsh_landings_count marsh_fogSide snapshot_reeds_states snapshot_reeds_count snapshot_reeds_broken snapshot_fleet_numbers snapshot_fleet_cells snapshot_fleet_fares snapshot_fleet_count snapshot_fleet_nextNumber snapshot_fleet_total snapshot_fleet_removedFares snapshot_fleet_meetings snapshot_plans_moves snapshot_plans_lengths snapshot_landings_cells snapshot_landings_count snapshot_fogSide history_slots history_free history_count X.2.2.1 ways_queue X.2.2.2.1 X.2.2.2.2.1 X.2.2.2.2.2 ways_improved pairing_costs pairing_best reader_kinds reader_starts reader_count commandText_signs commandText_length line_signs line_length spareMoves snapshotTaken lastErrorPosition lastFailedCommand ∧ mm_fr w w' b (b + 152))) 2 12 (va_A w sz) := by
  refine mm_xheadI hfl [.ref b, .int x1, .int x2, .int x3] (by decide +kernel) rfl (Nat.le_of_ble_eq_true rfl) rfl rfl ?_
  intro p e s m args below meth c A Q hsz hC hM hret hprop hthrow ls hl
  have hx := hC.1.1
  have hb := hC.1.2.1
  have hl : lv_has ls 6 [(0, .ref b), (1, .int x1), (2, .int x2), (3, .int x3)] := hl
  have hF : mm_fr w w b (b + 152) := mm_fr.rf
  rw [f_X12_breakingEffort] at hf
  obtain ⟨hc_this, hp_this_marsh, hp_this_snapshot, hp_this_history, hp_this_ways, hp_this_pairing, hp_this_reader, hp_this_commandText, hp_this_line, hp_this_spareMoves⟩ := hp_this
  refine lv_aload_n hx hb dX12_breakingEffort_0 rfl (lv_at hl 0 rfl) ?_
  refine mm_get hC hM (k := 0) hc_this rfl inAX12 (by decide) q2_16 rfl dX12_breakingEffort_1 ?_
  refine mm_get hC hM (k := 1) hp_this_marsh.1 rfl inAX6 (by decide) q1_142 rfl dX12_breakingEffort_4 ?_
  refine mm_get hC hM (k := 1) (hp_this_marsh.2.2.1).1 rfl inAX3 (by decide) q1_78 rfl dX12_breakingEffort_7 ?_
  refine lv_aload_n hx hb dX12_breakingEffort_10 rfl (lv_at hl 0 rfl) ?_
  refine lv_iload_n hx hb dX12_breakingEffort_11 rfl (lv_at hl 1 rfl) ?_
  obtain ⟨q12, hq12, hf⟩ := mm_bd hf
  refine mm_xVi (rest := [.ref (b + 1 + 3 + 2)]) hC hM (c_X12_existingPlace l hfl hq12 ⟨hc_this, hp_this_marsh, hp_this_snapshot, hp_this_history, hp_this_ways, hp_this_pairing, hp_this_reader, hp_this_commandText, hp_this_line, hp_this_spareMoves⟩) q4_159 q1_1 ykX12_existingPlace q4_156 q4_158 qp_40dca9e3 hc_this rfl ⟨rfl, rfl⟩ ⟨Nat.le_of_ble_eq_true rfl, Nat.le_of_ble_eq_true rfl⟩ rfl hl.1 rfl (Nat.le_of_ble_eq_true rfl) dX12_breakingEffort_12 ⟨Nat.le_of_ble_eq_true rfl, Nat.le_of_ble_eq_true rfl⟩ (fun E ce qE w12 H locs hM hw hqE hv9 hcl9 => ?_) (fun r w12 H locs hM hw => ?_)
  · obtain ⟨hne, hE, hw⟩ := hw
    rw [if_neg hne] at hf
    rw [hw] at hM
    cases hf
    exact hprop hM hqE hv9 hcl9 ⟨hne, hE, ⟨hc_this, hp_this_marsh, hp_this_snapshot, hp_this_history, hp_this_ways, hp_this_pairing, hp_this_reader, hp_this_commandText, hp_this_line, hp_this_spareMoves⟩, hF⟩ (Nat.le_of_ble_eq_true rfl) (Nat.le_of_ble_eq_true rfl)
  obtain ⟨h0, hr, hw⟩ := hw
  rw [if_pos h0] at hf
  rw [hr]
  rw [hw] at hM
  obtain ⟨hg15, hf⟩ := mm_gd hf
  refine mm_iald hC hM ((hp_this_marsh.2.2.1).2.2.1) hg15 dX12_breakingEffort_15 ?_
  refine lv_istore (lv' := [(4, .int (marsh_fleet_cells q12.2.toNatClampNeg)), (0, .ref b), (1, .int x1), (2, .int x2), (3, .int x3)]) hx hb dX12_breakingEffort_16 hl (by decide) rfl (fun ls hl => ?_)
  refine lv_iload_n hx hb dX12_breakingEffort_18 rfl (lv_at hl 3 rfl) ?_
  refine lv_iload_n hx hb dX12_breakingEffort_19 rfl (lv_at hl 4 rfl) ?_
  obtain ⟨q20, hq20, hf⟩ := mm_bd hf
  refine mm_xSi (rest := []) hC hM (c_X12_existingCell l hfl hq20) q4_88 q1_1 ykX12_existingCell q4_86 q4_87 ⟨rfl, rfl⟩ ⟨Nat.le_of_ble_eq_true rfl, Nat.le_of_ble_eq_true rfl⟩ rfl hl.1 rfl (Nat.le_of_ble_eq_true rfl) dX12_breakingEffort_20 ⟨Nat.le_of_ble_eq_true rfl, Nat.le_of_ble_eq_true rfl⟩ (fun E ce qE w20 H locs hM hw hqE hv9 hcl9 => ?_) (fun r w20 H locs hM hw => ?_)
  · obtain ⟨hne, hE, hw⟩ := hw
    rw [if_neg hne] at hf
    rw [hw] at hM
    cases hf
    exact hprop hM hqE hv9 hcl9 ⟨hne, hE, ⟨hc_this, hp_this_marsh, hp_this_snapshot, hp_this_history, hp_this_ways, hp_this_pairing, hp_this_reader, hp_this_commandText, hp_this_line, hp_this_spareMoves⟩, hF⟩ (Nat.le_of_ble_eq_true rfl) (Nat.le_of_ble_eq_true rfl)
  obtain ⟨h0, hr, hw⟩ := hw
  rw [if_pos h0] at hf
  rw [hr]
  rw [hw] at hM
  refine lv_istore (lv' := [(5, .int q20.2), (4, .int (marsh_fleet_cells q12.2.toNatClampNeg)), (0, .ref b), (1, .int x1), (2, .int x2), (3, .int x3)]) hx hb dX12_breakingEffort_23 hl (by decide) rfl (fun ls hl => ?_)
  refine lv_aload_n hx hb dX12_breakingEffort_25 rfl (lv_at hl 2 rfl) ?_
  refine mm_get hC hM (k := 3) hc_this rfl inAX12 (by decide) q2_19 rfl dX12_breakingEffort_26 ?_
  refine lv_aload_n hx hb dX12_breakingEffort_29 rfl (lv_at hl 2 rfl) ?_
  refine mm_get hC hM (k := 0) hc_this rfl inAX12 (by decide) q2_16 rfl dX12_breakingEffort_30 ?_
  obtain ⟨q33, hq33, hf⟩ := mm_bd hf
  refine mm_Vv (rest := []) hC hM (c_X11_setReedTolls l hq33 hp_this_ways hp_this_marsh (by omega)) q5_148 q1_8 ykX11_setReedTolls q5_145 q5_146 q5_147 hp_this_ways.1 rfl ⟨rfl, rfl⟩ ⟨Nat.le_of_ble_eq_true rfl, Nat.le_of_ble_eq_true rfl⟩ rfl hl.1 rfl (Nat.le_of_ble_eq_true rfl) dX12_breakingEffort_33 ⟨Nat.le_of_ble_eq_true rfl, Nat.le_of_ble_eq_true rfl⟩ (fun w33 H locs hM hw => ?_)
  obtain ⟨hn_this, hfr⟩ := hw
  have hc_this := hfr.keep hc_this (by omega)
  have hp_this_spareMoves := hfr.keep hp_this_spareMoves (by omega)
  have hp_this_marsh := hp_this_marsh.keep hfr (by omega)
  have hp_this_snapshot := hp_this_snapshot.keep hfr (by omega)
  have hp_this_history := hp_this_history.keep hfr (by omega)
  have hp_this_pairing := hp_this_pairing.keep hfr (by omega)
  have hp_this_reader := hp_this_reader.keep hfr (by omega)
  have hp_this_commandText := hp_this_commandText.keep hfr (by omega)
  have hp_this_line := hp_this_line.keep hfr (by omega)
  have hp_this_ways := hn_this
  have hF := hF.tr (hfr.wide (by omega) (by omega))
  refine lv_aload_n hx hb dX12_breakingEffort_36 rfl (lv_at hl 2 rfl) ?_
  refine mm_get hC hM (k := 3) hc_this rfl inAX12 (by decide) q2_19 rfl dX12_breakingEffort_37 ?_
  refine lv_iload hx hb dX12_breakingEffort_40 (lv_at hl 1 rfl) ?_
  obtain ⟨q42, hq42, hf⟩ := mm_bd hf
  refine mm_Vv (rest := []) hC hM (c_X11_searchByHeap l hq42 hp_this_ways) q2_193 q1_8 ykX11_searchByHeap q2_190 q2_191 q2_192 hp_this_ways.1 rfl ⟨rfl, rfl⟩ ⟨Nat.le_of_ble_eq_true rfl, Nat.le_of_ble_eq_true rfl⟩ rfl hl.1 rfl (Nat.le_of_ble_eq_true rfl) dX12_breakingEffort_42 ⟨Nat.le_of_ble_eq_true rfl, Nat.le_of_ble_eq_true rfl⟩ (fun w42 H locs hM hw => ?_)
  obtain ⟨hn_this, hfr⟩ := hw
  have hc_this := hfr.keep hc_this (by omega)
  have hp_this_spareMoves := hfr.keep hp_this_spareMoves (by omega)
  have hp_this_marsh := hp_this_marsh.keep hfr (by omega)
  have hp_this_snapshot := hp_this_snapshot.keep hfr (by omega)
  have hp_this_history := hp_this_history.keep hfr (by omega)
  have hp_this_pairing := hp_this_pairing.keep hfr (by omega)
  have hp_this_reader := hp_this_reader.keep hfr (by omega)
  have hp_this_commandText := hp_this_commandText.keep hfr (by omega)
  have hp_this_line := hp_this_line.keep hfr (by omega)
  have hp_this_ways := hn_this
  have hF := hF.tr (hfr.wide (by omega) (by omega))
  refine lv_aload_n hx hb dX12_breakingEffort_45 rfl (lv_at hl 2 rfl) ?_
  refine mm_get hC hM (k := 3) hc_this rfl inAX12 (by decide) q2_19 rfl dX12_breakingEffort_46 ?_
  refine mm_get hC hM (k := 4) hp_this_ways.1 rfl inAX11 (by decide) q1_192 rfl dX12_breakingEffort_49 ?_
  refine lv_iload hx hb dX12_breakingEffort_52 (lv_at hl 0 rfl) ?_
  obtain ⟨hg54, hf⟩ := mm_gd hf
  refine mm_iald hC hM (hp_this_ways.2.2.2.2.1) hg54 dX12_breakingEffort_54 ?_
  cases hf
  exact hret hM dX12_breakingEffort_55 rfl ⟨rfl, rfl, ⟨hc_this, hp_this_marsh, hp_this_snapshot, hp_this_history, hp_this_ways, hp_this_pairing, hp_this_reader, hp_this_commandText, hp_this_line, hp_this_spareMoves⟩, hF⟩ (Nat.le_of_ble_eq_true rfl) (Nat.le_of_ble_eq_true rfl)
def f_X12_planWay (K : Nat) (marsh_reeds_states : Nat → Int32) (marsh_reeds_count : Int32) (marsh_reeds_broken : Int32) (marsh_fleet_numbers : Nat → Int32) (marsh_fleet_cells : Nat → Int32) (marsh_fleet_fares : Nat → Int32) (marsh_fleet_count : Int32) (marsh_fleet_nextNumber : Int32) (marsh_fleet_total : Int32) (marsh_fleet_removedFares : Int32) (marsh_fleet_meetings : Int32) (marsh_plans_moves : Nat → Int32) (marsh_plans_lengths : Nat → Int32) (marsh_landings_cells : Nat → Int32) (marsh_landings_count : Int32) (marsh_fogSide : Int32) (history_slots : Nat → mm_MV) (history_free : Int32) (history_count : Int32) (ways_tolls : Nat → Int32) (ways_queue : Nat → Int32) (ways_found : Nat → Int32) (x1 : Int32) (x2 : Int32) (x3 : Int32) (x4 : Int32) : Option (Nat × Int32 × (Nat → Int32) × (Nat → Int32) × (Nat → mm_MV) × Int32 × Int32 × (Nat → Int32) × (Nat → Int32) × (Nat → Int32)) := (f_X4_note history_slots history_free marsh_reeds_states marsh_reeds_count marsh_reeds_broken marsh_fleet_numbers marsh_fleet_cells marsh_fleet_fares marsh_fleet_count marsh_fleet_nextNumber marsh_fleet_total marsh_fleet_removedFares marsh_fleet_meetings marsh_plans_moves marsh_plans_lengths marsh_landings_cells marsh_landings_count marsh_fogSide).bind fun q8 => (f_X6_layWay K marsh_reeds_states marsh_fleet_numbers marsh_fleet_cells marsh_fleet_count marsh_plans_moves marsh_plans_lengths ways_tolls ways_queue ways_found x1 x2 x3 x4).bind fun q25 => (f_X12_settled history_free history_count q25.1).bind fun q28 => if q28.1 = 0 then some (0, q28.2.1, q25.2.1, q25.2.2.1, q8, q28.2.2.1, q28.2.2.2, q25.2.2.2.1, q25.2.2.2.2.1, q25.2.2.2.2.2) else some (q28.1, 0, q25.2.1, q25.2.2.1, q8, q28.2.2.1, q28.2.2.2, q25.2.2.2.1, q25.2.2.2.2.1, q25.2.2.2.2.2)
set_option maxHeartbeats 4000000 in
set_option maxRecDepth 100000 in
theorem c_X12_planWay (l : Launch) (hfl : l.stackTraces = false) {G : mm_G} {K : Nat} {w : va_W} {sz : Nat} {b : Nat} {marsh_reeds_states : Nat → Int32} {marsh_reeds_count : Int32} {marsh_reeds_broken : Int32} {marsh_fleet_numbers : Nat → Int32} {marsh_fleet_cells : Nat → Int32} {marsh_fleet_fares : Nat → Int32} {marsh_fleet_count : Int32} {marsh_fleet_nextNumber : Int32} {marsh_fleet_total : Int32} {marsh_fleet_removedFares : Int32} {marsh_fleet_meetings : Int32} {marsh_plans_moves : Nat → Int32} {marsh_plans_lengths : Nat → Int32} {marsh_landings_cells : Nat → Int32} {marsh_landings_count : Int32} {marsh_fogSide : Int32} {snapshot_reeds_states : Nat → Int32} {snapshot_reeds_count : Int32} {snapshot_reeds_broken : Int32} {snapshot_fleet_numbers : Nat → Int32} {snapshot_fleet_cells : Nat → Int32} {snapshot_fleet_fares : Nat → Int32} {snapshot_fleet_count : Int32} {snapshot_fleet_nextNumber : Int32} {snapshot_fleet_total : Int32} {snapshot_fleet_removedFares : Int32} {snapshot_fleet_meetings : Int32} {snapshot_plans_moves : Nat → Int32} {snapshot_plans_lengths : Nat → Int32} {snapshot_landings_cells : Nat → Int32} {snapshot_landings_count : Int32} {snapshot_fogSide : Int32} {history_slots : Nat → mm_MV} {history_free : Int32} {history_count : Int32} {ways_tolls : Nat → Int32} {ways_queue : Nat → Int32} {ways_heap : Nat → Int32} {ways_heapSize : Int32} {ways_found : Nat → Int32} {ways_improved : Nat → Int32} {pairing_costs : Nat → Int32} {pairing_best : Nat → Int32} {reader_kinds : Nat → Int32} {reader_starts : Nat → Int32} {reader_count : Int32} {commandText_signs : Nat → Int32} {commandText_length : Int32} {line_signs : Nat → Int32} {line_length : Int32} {spareMoves : Nat → Int32} {snapshotTaken : Int32} {lastErrorPosition : Int32} {lastFailedCommand : Int32} {x1 : Int32} {x2 : Int32} {x3 : Int32} {x4 : Int32} {X : Nat × Int32 × (Nat → Int32) × (Nat → Int32) × (Nat → mm_MV) × Int32 × Int32 × (Nat → Int32) × (Nat → Int32) × (Nat → Int32)} (hf : f_X12_planWay K marsh_reeds_states marsh_reeds_count marsh_reeds_broken marsh_fleet_numbers marsh_fleet_cells marsh_fleet_fares marsh_fleet_count marsh_fleet_nextNumber marsh_fleet_total marsh_fleet_removedFares marsh_fleet_meetings marsh_plans_moves marsh_plans_lengths marsh_landings_cells marsh_landings_count marsh_fogSide history_slots history_free history_count ways_tolls ways_queue ways_found x1 x2 x3 x4 = some X) (hp_this : At12 G w b marsh_reeds_states marsh_reeds_count marsh_reeds_broken marsh_fleet_numbers marsh_fleet_cells marsh_fleet_fares marsh_fleet_count marsh_fleet_nextNumber marsh_fleet_total marsh_fleet_removedFares marsh_fleet_meetings marsh_plans_moves marsh_plans_lengths marsh_landings_cells marsh_landings_count marsh_fogSide snapshot_reeds_states snapshot_reeds_count snapshot_reeds_broken snapshot_fleet_numbers snapshot_fleet_cells snapshot_fleet_fares snapshot_fleet_count snapshot_fleet_nextNumber snapshot_fleet_total snapshot_fleet_removedFares snapshot_fleet_meetings snapshot_plans_moves snapshot_plans_lengths snapshot_landings_cells snapshot_landings_count snapshot_fogSide history_slots history_free history_count ways_tolls ways_queue ways_heap ways_heapSize ways_found ways_improved pairing_costs pairing_best reader_kinds reader_starts reader_count commandText_signs commandText_length line_signs line_length spareMoves snapshotTaken lastErrorPosition lastFailedCommand) : vx_Met l yX12_planWay (Cond.code yX12_planWay cX12_planWay 5 (some .int) :: gAll) ({ frames := 8, cells := 1, slots := 6, locals := 141 }) (va_Pc [.ref b, .int x1, .int x2, .int x3, .int x4] (mm_Pre G w sz)) (mm_Qi G w sz (fun r w' => X.1 = 0 ∧ r = X.2.1 ∧ At12 G w' b marsh_reeds_states marsh_reeds_count marsh_reeds_broken marsh_fleet_numbers marsh_fleet_cells marsh_fleet_fares marsh_fleet_count marsh_fleet_nextNumber marsh_fleet_total marsh_fleet_removedFares marsh_fleet_meetings X.2.2.1 X.2.2.2.1 marsh_landings_cells marsh_landings_count marsh_fogSide snapshot_reeds_states snapshot_reeds_count snapshot_reeds_broken snapshot_fleet_numbers snapshot_fleet_cells snapshot_fleet_fares snapshot_fleet_count snapshot_fleet_nextNumber snapshot_fleet_total snapshot_fleet_removedFares snapshot_fleet_meetings snapshot_plans_moves snapshot_plans_lengths snapshot_landings_cells snapshot_landings_count snapshot_fogSide X.2.2.2.2.1 X.2.2.2.2.2.1 X.2.2.2.2.2.2.1 X.2.2.2.2.2.2.2.1 X.2.2.2.2.2.2.2.2.1 ways_heap ways_heapSize X.2.2.2.2.2.2.2.2.2 ways_improved pairing_costs pairing_best reader_kinds reader_starts reader_count commandText_signs commandText_length line_signs line_length spareMoves snapshotTaken lastErrorPosition lastFailedCommand ∧ mm_fr w w' b (b + 152))) (mm_QX G w sz (fun E w' => X.1 ≠ 0 ∧ E = mm_ex X.1 ∧ At12 G w' b marsh_reeds_states marsh_reeds_count marsh_reeds_broken marsh_fleet_numbers marsh_fleet_cells marsh_fleet_fares marsh_fleet_count marsh_fleet_nextNumber marsh_fleet_total marsh_fleet_removedFares marsh_fleet_meetings X.2.2.1 X.2.2.2.1 marsh_landings_cells marsh_landings_count marsh_fogSide snapshot_reeds_states snapshot_reeds_count snapshot_reeds_broken snapshot_fleet_numbers snapshot_fleet_cells snapshot_fleet_fares snapshot_fleet_count snapshot_fleet_nextNumber snapshot_fleet_total snapshot_fleet_removedFares snapshot_fleet_meetings snapshot_plans_moves snapshot_plans_lengths snapshot_landings_cells snapshot_landings_count snapshot_fogSide X.2.2.2.2.1 X.2.2.2.2.2.1 X.2.2.2.2.2.2.1 X.2.2.2.2.2.2.2.1 X.2.2.2.2.2.2.2.2.1 ways_heap ways_heapSize X.2.2.2.2.2.2.2.2.2 ways_improved pairing_costs pairing_best reader_kinds reader_starts reader_count commandText_signs commandText_length line_signs line_length spareMoves snapshotTaken lastErrorPosition lastFailedCommand ∧ mm_fr w w' b (b + 152))) 1 6 (va_A w sz) := by
  refine mm_xheadI hfl [.ref b, .int x1, .int x2, .int x3, .int x4] (by decide +kernel) rfl (Nat.le_of_ble_eq_true rfl) rfl rfl ?_
  intro p e s m args below meth c A Q hsz hC hM hret hprop hthrow ls hl
  have hx := hC.1.1
  have hb := hC.1.2.1
  have hl : lv_has ls 5 [(0, .ref b), (1, .int x1), (2, .int x2), (3, .int x3), (4, .int x4)] := hl
  have hF : mm_fr w w b (b + 152) := mm_fr.rf
  rw [f_X12_planWay] at hf
  obtain ⟨hc_this, hp_this_marsh, hp_this_snapshot, hp_this_history, hp_this_ways, hp_this_pairing, hp_this_reader, hp_this_commandText, hp_this_line, hp_this_spareMoves⟩ := hp_this
  refine lv_aload_n hx hb dX12_planWay_0 rfl (lv_at hl 0 rfl) ?_
  refine mm_get hC hM (k := 2) hc_this rfl inAX12 (by decide) q2_18 rfl dX12_planWay_1 ?_
  refine lv_aload_n hx hb dX12_planWay_4 rfl (lv_at hl 0 rfl) ?_
  refine mm_get hC hM (k := 0) hc_this rfl inAX12 (by decide) q2_16 rfl dX12_planWay_5 ?_
  obtain ⟨q8, hq8, hf⟩ := mm_bd hf
  refine mm_Vv (rest := []) hC hM (c_X4_note l hq8 hp_this_history hp_this_marsh (by omega)) q3_178 q1_7 ykX4_note q3_175 q3_176 q3_177 hp_this_history.1 rfl ⟨rfl, rfl⟩ ⟨Nat.le_of_ble_eq_true rfl, Nat.le_of_ble_eq_true rfl⟩ rfl hl.1 rfl (Nat.le_of_ble_eq_true rfl) dX12_planWay_8 ⟨Nat.le_of_ble_eq_true rfl, Nat.le_of_ble_eq_true rfl⟩ (fun w8 H locs hM hw => ?_)
  obtain ⟨hn_this, hfr⟩ := hw
  have hc_this := hfr.keep hc_this (by omega)
  have hp_this_spareMoves := hfr.keep hp_this_spareMoves (by omega)
  have hp_this_marsh := hp_this_marsh.keep hfr (by omega)
  have hp_this_snapshot := hp_this_snapshot.keep hfr (by omega)
  have hp_this_ways := hp_this_ways.keep hfr (by omega)
  have hp_this_pairing := hp_this_pairing.keep hfr (by omega)
  have hp_this_reader := hp_this_reader.keep hfr (by omega)
  have hp_this_commandText := hp_this_commandText.keep hfr (by omega)
  have hp_this_line := hp_this_line.keep hfr (by omega)
  have hp_this_history := hn_this
  have hF := hF.tr (hfr.wide (by omega) (by omega))
  refine lv_aload_n hx hb dX12_planWay_11 rfl (lv_at hl 0 rfl) ?_
  refine lv_aload_n hx hb dX12_planWay_12 rfl (lv_at hl 0 rfl) ?_
  refine mm_get hC hM (k := 0) hc_this rfl inAX12 (by decide) q2_16 rfl dX12_planWay_13 ?_
  refine lv_aload_n hx hb dX12_planWay_16 rfl (lv_at hl 0 rfl) ?_
  refine mm_get hC hM (k := 3) hc_this rfl inAX12 (by decide) q2_19 rfl dX12_planWay_17 ?_
  refine lv_iload_n hx hb dX12_planWay_20 rfl (lv_at hl 1 rfl) ?_
  refine lv_iload_n hx hb dX12_planWay_21 rfl (lv_at hl 2 rfl) ?_
  refine lv_iload_n hx hb dX12_planWay_22 rfl (lv_at hl 3 rfl) ?_
  refine lv_iload hx hb dX12_planWay_23 (lv_at hl 4 rfl) ?_
  obtain ⟨q25, hq25, hf⟩ := mm_bd hf
  refine mm_Vi (rest := [.ref b]) hC hM (c_X6_layWay l hq25 hp_this_marsh hp_this_ways (by omega)) q5_163 q1_2 ykX6_layWay q5_160 q5_161 q5_162 hp_this_marsh.1 rfl ⟨rfl, rfl⟩ ⟨Nat.le_of_ble_eq_true rfl, Nat.le_of_ble_eq_true rfl⟩ rfl hl.1 rfl (Nat.le_of_ble_eq_true rfl) dX12_planWay_25 ⟨Nat.le_of_ble_eq_true rfl, Nat.le_of_ble_eq_true rfl⟩ (fun r w25 H locs hM hw => ?_)
  obtain ⟨hr, hn_this, hn_p1, hfr⟩ := hw
  rw [hr]
  have hc_this := hfr.keep hc_this (by omega) (by omega)
  have hp_this_spareMoves := hfr.keep hp_this_spareMoves (by omega) (by omega)
  have hp_this_snapshot := hp_this_snapshot.keep2 hfr (by omega) (by omega)
  have hp_this_history := hp_this_history.keep2 hfr (by omega) (by omega)
  have hp_this_pairing := hp_this_pairing.keep2 hfr (by omega) (by omega)
  have hp_this_reader := hp_this_reader.keep2 hfr (by omega) (by omega)
  have hp_this_commandText := hp_this_commandText.keep2 hfr (by omega) (by omega)
  have hp_this_line := hp_this_line.keep2 hfr (by omega) (by omega)
  have hp_this_marsh := hn_this
  have hp_this_ways := hn_p1
  have hF := hF.tr (hfr.one (by omega) (by omega) (by omega) (by omega))
  obtain ⟨q28, hq28, hf⟩ := mm_bd hf
  refine mm_xVi (rest := []) hC hM (c_X12_settled l hfl hq28 ⟨hc_this, hp_this_marsh, hp_this_snapshot, hp_this_history, hp_this_ways, hp_this_pairing, hp_this_reader, hp_this_commandText, hp_this_line, hp_this_spareMoves⟩) q3_201 q1_1 ykX12_settled q3_198 q3_200 qp_bbc23764 hc_this rfl ⟨rfl, rfl⟩ ⟨Nat.le_of_ble_eq_true rfl, Nat.le_of_ble_eq_true rfl⟩ rfl hl.1 rfl (Nat.le_of_ble_eq_true rfl) dX12_planWay_28 ⟨Nat.le_of_ble_eq_true rfl, Nat.le_of_ble_eq_true rfl⟩ (fun E ce qE w28 H locs hM hw hqE hv9 hcl9 => ?_) (fun r w28 H locs hM hw => ?_)
  · obtain ⟨hne, hE, hn_this, hfr⟩ := hw
    rw [if_neg hne] at hf
    obtain ⟨hc_this, hp_this_marsh, hp_this_snapshot, hp_this_history, hp_this_ways, hp_this_pairing, hp_this_reader, hp_this_commandText, hp_this_line, hp_this_spareMoves⟩ := hn_this
    have hF := hF.tr (hfr.wide (by omega) (by omega))
    cases hf
    exact hprop hM hqE hv9 hcl9 ⟨hne, hE, ⟨hc_this, hp_this_marsh, hp_this_snapshot, hp_this_history, hp_this_ways, hp_this_pairing, hp_this_reader, hp_this_commandText, hp_this_line, hp_this_spareMoves⟩, hF⟩ (Nat.le_of_ble_eq_true rfl) (Nat.le_of_ble_eq_true rfl)
  obtain ⟨h0, hr, hn_this, hfr⟩ := hw
  rw [if_pos h0] at hf
  rw [hr]
  obtain ⟨hc_this, hp_this_marsh, hp_this_snapshot, hp_this_history, hp_this_ways, hp_this_pairing, hp_this_reader, hp_this_commandText, hp_this_line, hp_this_spareMoves⟩ := hn_this
  have hF := hF.tr (hfr.wide (by omega) (by omega))
  cases hf
  exact hret hM dX12_planWay_31 rfl ⟨rfl, rfl, ⟨hc_this, hp_this_marsh, hp_this_snapshot, hp_this_history, hp_this_ways, hp_this_pairing, hp_this_reader, hp_this_commandText, hp_this_line, hp_this_spareMoves⟩, hF⟩ (Nat.le_of_ble_eq_true rfl) (Nat.le_of_ble_eq_true rfl)
def f_X12_addLanding (K : Nat) (marsh_reeds_states : Nat → Int32) (marsh_reeds_count : Int32) (marsh_reeds_broken : Int32) (marsh_fleet_numbers : Nat → Int32) (marsh_fleet_cells : Nat → Int32) (marsh_fleet_fares : Nat → Int32) (marsh_fleet_count : Int32) (marsh_fleet_nextNumber : Int32) (marsh_fleet_total : Int32) (marsh_fleet_removedFares : Int32) (marsh_fleet_meetings : Int32) (marsh_plans_moves : Nat → Int32) (marsh_plans_lengths : Nat → Int32) (marsh_landings_cells : Nat → Int32) (marsh_landings_count : Int32) (marsh_fogSide : Int32) (history_slots : Nat → mm_MV) (history_free : Int32) (history_count : Int32) (x1 : Int32) (x2 : Int32) : Option (Nat × Int32 × (Nat → Int32) × Int32 × (Nat → mm_MV) × Int32 × Int32) := (f_X4_note history_slots history_free marsh_reeds_states marsh_reeds_count marsh_reeds_broken marsh_fleet_numbers marsh_fleet_cells marsh_fleet_fares marsh_fleet_count marsh_fleet_nextNumber marsh_fleet_total marsh_fleet_removedFares marsh_fleet_meetings marsh_plans_moves marsh_plans_lengths marsh_landings_cells marsh_landings_count marsh_fogSide).bind fun q8 => (f_X5_build K marsh_landings_cells marsh_landings_count x1 x2).bind fun q21 => (f_X12_settled history_free history_count q21.1).bind fun q24 => if q24.1 = 0 then some (0, q24.2.1, q21.2.1, q21.2.2, q8, q24.2.2.1, q24.2.2.2) else some (q24.1, 0, q21.2.1, q21.2.2, q8, q24.2.2.1, q24.2.2.2)
set_option maxHeartbeats 4000000 in
set_option maxRecDepth 100000 in
theorem c_X12_addLanding (l : Launch) (hfl : l.stackTraces = false) {G : mm_G} {K : Nat} {w : va_W} {sz : Nat} {b : Nat} {marsh_reeds_states : Nat → Int32} {marsh_reeds_count : Int32} {marsh_reeds_broken : Int32} {marsh_fleet_numbers : Nat → Int32} {marsh_fleet_cells : Nat → Int32} {marsh_fleet_fares : Nat → Int32} {marsh_fleet_count : Int32} {marsh_fleet_nextNumber : Int32} {marsh_fleet_total : Int32} {marsh_fleet_removedFares : Int32} {marsh_fleet_meetings : Int32} {marsh_plans_moves : Nat → Int32} {marsh_plans_lengths : Nat → Int32} {marsh_landings_cells : Nat → Int32} {marsh_landings_count : Int32} {marsh_fogSide : Int32} {snapshot_reeds_states : Nat → Int32} {snapshot_reeds_count : Int32} {snapshot_reeds_broken : Int32} {snapshot_fleet_numbers : Nat → Int32} {snapshot_fleet_cells : Nat → Int32} {snapshot_fleet_fares : Nat → Int32} {snapshot_fleet_count : Int32} {snapshot_fleet_nextNumber : Int32} {snapshot_fleet_total : Int32} {snapshot_fleet_removedFares : Int32} {snapshot_fleet_meetings : Int32} {snapshot_plans_moves : Nat → Int32} {snapshot_plans_lengths : Nat → Int32} {snapshot_landings_cells : Nat → Int32} {snapshot_landings_count : Int32} {snapshot_fogSide : Int32} {history_slots : Nat → mm_MV} {history_free : Int32} {history_count : Int32} {ways_tolls : Nat → Int32} {ways_queue : Nat → Int32} {ways_heap : Nat → Int32} {ways_heapSize : Int32} {ways_found : Nat → Int32} {ways_improved : Nat → Int32} {pairing_costs : Nat → Int32} {pairing_best : Nat → Int32} {reader_kinds : Nat → Int32} {reader_starts : Nat → Int32} {reader_count : Int32} {commandText_signs : Nat → Int32} {commandText_length : Int32} {line_signs : Nat → Int32} {line_length : Int32} {spareMoves : Nat → Int32} {snapshotTaken : Int32} {lastErrorPosition : Int32} {lastFailedCommand : Int32} {x1 : Int32} {x2 : Int32} {X : Nat × Int32 × (Nat → Int32) × Int32 × (Nat → mm_MV) × Int32 × Int32} (hf : f_X12_addLanding K marsh_reeds_states marsh_reeds_count marsh_reeds_broken marsh_fleet_numbers marsh_fleet_cells marsh_fleet_fares marsh_fleet_count marsh_fleet_nextNumber marsh_fleet_total marsh_fleet_removedFares marsh_fleet_meetings marsh_plans_moves marsh_plans_lengths marsh_landings_cells marsh_landings_count marsh_fogSide history_slots history_free history_count x1 x2 = some X) (hp_this : At12 G w b marsh_reeds_states marsh_reeds_count marsh_reeds_broken marsh_fleet_numbers marsh_fleet_cells marsh_fleet_fares marsh_fleet_count marsh_fleet_nextNumber marsh_fleet_total marsh_fleet_removedFares marsh_fleet_meetings marsh_plans_moves marsh_plans_lengths marsh_landings_cells marsh_landings_count marsh_fogSide snapshot_reeds_states snapshot_reeds_count snapshot_reeds_broken snapshot_fleet_numbers snapshot_fleet_cells snapshot_fleet_fares snapshot_fleet_count snapshot_fleet_nextNumber snapshot_fleet_total snapshot_fleet_removedFares snapshot_fleet_meetings snapshot_plans_moves snapshot_plans_lengths snapshot_landings_cells snapshot_landings_count snapshot_fogSide history_slots history_free history_count ways_tolls ways_queue ways_heap ways_heapSize ways_found ways_improved pairing_costs pairing_best reader_kinds reader_starts reader_count commandText_signs commandText_length line_signs line_length spareMoves snapshotTaken lastErrorPosition lastFailedCommand) : vx_Met l yX12_addLanding (Cond.code yX12_addLanding cX12_addLanding 3 (some .int) :: gAll) ({ frames := 8, cells := 1, slots := 6, locals := 141 }) (va_Pc [.ref b, .int x1, .int x2] (mm_Pre G w sz)) (mm_Qi G w sz (fun r w' => X.1 = 0 ∧ r = X.2.1 ∧ At12 G w' b marsh_reeds_states marsh_reeds_count marsh_reeds_broken marsh_fleet_numbers marsh_fleet_cells marsh_fleet_fares marsh_fleet_count marsh_fleet_nextNumber marsh_fleet_total marsh_fleet_removedFares marsh_fleet_meetings marsh_plans_moves marsh_plans_lengths X.2.2.1 X.2.2.2.1 marsh_fogSide snapshot_reeds_states snapshot_reeds_count snapshot_reeds_broken snapshot_fleet_numbers snapshot_fleet_cells snapshot_fleet_fares snapshot_fleet_count snapshot_fleet_nextNumber snapshot_fleet_total snapshot_fleet_removedFares snapshot_fleet_meetings snapshot_plans_moves snapshot_plans_lengths snapshot_landings_cells snapshot_landings_count snapshot_fogSide X.2.2.2.2.1 X.2.2.2.2.2.1 X.2.2.2.2.2.2 ways_tolls ways_queue ways_heap ways_heapSize ways_found ways_improved pairing_costs pairing_best reader_kinds reader_starts reader_count commandText_signs commandText_length line_signs line_length spareMoves snapshotTaken lastErrorPosition lastFailedCommand ∧ mm_fr w w' b (b + 152))) (mm_QX G w sz (fun E w' => X.1 ≠ 0 ∧ E = mm_ex X.1 ∧ At12 G w' b marsh_reeds_states marsh_reeds_count marsh_reeds_broken marsh_fleet_numbers marsh_fleet_cells marsh_fleet_fares marsh_fleet_count marsh_fleet_nextNumber marsh_fleet_total marsh_fleet_removedFares marsh_fleet_meetings marsh_plans_moves marsh_plans_lengths X.2.2.1 X.2.2.2.1 marsh_fogSide snapshot_reeds_states snapshot_reeds_count snapshot_reeds_broken snapshot_fleet_numbers snapshot_fleet_cells snapshot_fleet_fares snapshot_fleet_count snapshot_fleet_nextNumber snapshot_fleet_total snapshot_fleet_removedFares snapshot_fleet_meetings snapshot_plans_moves snapshot_plans_lengths snapshot_landings_cells snapshot_landings_count snapshot_fogSide X.2.2.2.2.1 X.2.2.2.2.2.1 X.2.2.2.2.2.2 ways_tolls ways_queue ways_heap ways_heapSize ways_found ways_improved pairing_costs pairing_best reader_kinds reader_starts reader_count commandText_signs commandText_length line_signs line_length spareMoves snapshotTaken lastErrorPosition lastFailedCommand ∧ mm_fr w w' b (b + 152))) 1 6 (va_A w sz) := by
  refine mm_xheadI hfl [.ref b, .int x1, .int x2] (by decide +kernel) rfl (Nat.le_of_ble_eq_true rfl) rfl rfl ?_
  intro p e s m args below meth c A Q hsz hC hM hret hprop hthrow ls hl
  have hx := hC.1.1
  have hb := hC.1.2.1
  have hl : lv_has ls 3 [(0, .ref b), (1, .int x1), (2, .int x2)] := hl
  have hF : mm_fr w w b (b + 152) := mm_fr.rf
  rw [f_X12_addLanding] at hf
  obtain ⟨hc_this, hp_this_marsh, hp_this_snapshot, hp_this_history, hp_this_ways, hp_this_pairing, hp_this_reader, hp_this_commandText, hp_this_line, hp_this_spareMoves⟩ := hp_this
  obtain ⟨hc_this_marsh, hp_this_marsh_reeds, hp_this_marsh_fleet, hp_this_marsh_plans, hp_this_marsh_landings⟩ := hp_this_marsh
  refine lv_aload_n hx hb dX12_addLanding_0 rfl (lv_at hl 0 rfl) ?_
  refine mm_get hC hM (k := 2) hc_this rfl inAX12 (by decide) q2_18 rfl dX12_addLanding_1 ?_
  refine lv_aload_n hx hb dX12_addLanding_4 rfl (lv_at hl 0 rfl) ?_
  refine mm_get hC hM (k := 0) hc_this rfl inAX12 (by decide) q2_16 rfl dX12_addLanding_5 ?_
  obtain ⟨q8, hq8, hf⟩ := mm_bd hf
  refine mm_Vv (rest := []) hC hM (c_X4_note l hq8 hp_this_history ⟨hc_this_marsh, hp_this_marsh_reeds, hp_this_marsh_fleet, hp_this_marsh_plans, hp_this_marsh_landings⟩ (by omega)) q3_178 q1_7 ykX4_note q3_175 q3_176 q3_177 hp_this_history.1 rfl ⟨rfl, rfl⟩ ⟨Nat.le_of_ble_eq_true rfl, Nat.le_of_ble_eq_true rfl⟩ rfl hl.1 rfl (Nat.le_of_ble_eq_true rfl) dX12_addLanding_8 ⟨Nat.le_of_ble_eq_true rfl, Nat.le_of_ble_eq_true rfl⟩ (fun w8 H locs hM hw => ?_)
  obtain ⟨hn_this, hfr⟩ := hw
  have hc_this := hfr.keep hc_this (by omega)
  have hp_this_spareMoves := hfr.keep hp_this_spareMoves (by omega)
  have hc_this_marsh := hfr.keep hc_this_marsh (by omega)
  have hp_this_marsh_reeds := hp_this_marsh_reeds.keep hfr (by omega)
  have hp_this_marsh_fleet := hp_this_marsh_fleet.keep hfr (by omega)
  have hp_this_marsh_plans := hp_this_marsh_plans.keep hfr (by omega)
  have hp_this_marsh_landings := hp_this_marsh_landings.keep hfr (by omega)
  have hp_this_snapshot := hp_this_snapshot.keep hfr (by omega)
  have hp_this_ways := hp_this_ways.keep hfr (by omega)
  have hp_this_pairing := hp_this_pairing.keep hfr (by omega)
  have hp_this_reader := hp_this_reader.keep hfr (by omega)
  have hp_this_commandText := hp_this_commandText.keep hfr (by omega)
  have hp_this_line := hp_this_line.keep hfr (by omega)
  have hp_this_history := hn_this
  have hF := hF.tr (hfr.wide (by omega) (by omega))
  refine lv_aload_n hx hb dX12_addLanding_11 rfl (lv_at hl 0 rfl) ?_
  refine lv_aload_n hx hb dX12_addLanding_12 rfl (lv_at hl 0 rfl) ?_
  refine mm_get hC hM (k := 0) hc_this rfl inAX12 (by decide) q2_16 rfl dX12_addLanding_13 ?_
  refine mm_get hC hM (k := 3) hc_this_marsh rfl inAX6 (by decide) q1_146 rfl dX12_addLanding_16 ?_
  refine lv_iload_n hx hb dX12_addLanding_19 rfl (lv_at hl 1 rfl) ?_
  refine lv_iload_n hx hb dX12_addLanding_20 rfl (lv_at hl 2 rfl) ?_
  obtain ⟨q21, hq21, hf⟩ := mm_bd hf
  refine mm_Vi (rest := [.ref b]) hC hM (c_X5_build l hq21 hp_this_marsh_landings) q5_184 q1_6 ykX5_build q5_181 q5_182 q5_183 hp_this_marsh_landings.1 rfl ⟨rfl, rfl⟩ ⟨Nat.le_of_ble_eq_true rfl, Nat.le_of_ble_eq_true rfl⟩ rfl hl.1 rfl (Nat.le_of_ble_eq_true rfl) dX12_addLanding_21 ⟨Nat.le_of_ble_eq_true rfl, Nat.le_of_ble_eq_true rfl⟩ (fun r w21 H locs hM hw => ?_)
  obtain ⟨hr, hn_this, hfr⟩ := hw
  rw [hr]
  have hc_this := hfr.keep hc_this (by omega)
  have hp_this_spareMoves := hfr.keep hp_this_spareMoves (by omega)
  have hc_this_marsh := hfr.keep hc_this_marsh (by omega)
  have hp_this_marsh_reeds := hp_this_marsh_reeds.keep hfr (by omega)
  have hp_this_marsh_fleet := hp_this_marsh_fleet.keep hfr (by omega)
  have hp_this_marsh_plans := hp_this_marsh_plans.keep hfr (by omega)
  have hp_this_snapshot := hp_this_snapshot.keep hfr (by omega)
  have hp_this_history := hp_this_history.keep hfr (by omega)
  have hp_this_ways := hp_this_ways.keep hfr (by omega)
  have hp_this_pairing := hp_this_pairing.keep hfr (by omega)
  have hp_this_reader := hp_this_reader.keep hfr (by omega)
  have hp_this_commandText := hp_this_commandText.keep hfr (by omega)
  have hp_this_line := hp_this_line.keep hfr (by omega)
  have hp_this_marsh_landings := hn_this
  have hF := hF.tr (hfr.wide (by omega) (by omega))
  obtain ⟨q24, hq24, hf⟩ := mm_bd hf
  refine mm_xVi (rest := []) hC hM (c_X12_settled l hfl hq24 ⟨hc_this, ⟨hc_this_marsh, hp_this_marsh_reeds, hp_this_marsh_fleet, hp_this_marsh_plans, hp_this_marsh_landings⟩, hp_this_snapshot, hp_this_history, hp_this_ways, hp_this_pairing, hp_this_reader, hp_this_commandText, hp_this_line, hp_this_spareMoves⟩) q3_201 q1_1 ykX12_settled q3_198 q3_200 qp_bbc23764 hc_this rfl ⟨rfl, rfl⟩ ⟨Nat.le_of_ble_eq_true rfl, Nat.le_of_ble_eq_true rfl⟩ rfl hl.1 rfl (Nat.le_of_ble_eq_true rfl) dX12_addLanding_24 ⟨Nat.le_of_ble_eq_true rfl, Nat.le_of_ble_eq_true rfl⟩ (fun E ce qE w24 H locs hM hw hqE hv9 hcl9 => ?_) (fun r w24 H locs hM hw => ?_)
  · obtain ⟨hne, hE, hn_this, hfr⟩ := hw
    rw [if_neg hne] at hf
    obtain ⟨hc_this, hp_this_marsh, hp_this_snapshot, hp_this_history, hp_this_ways, hp_this_pairing, hp_this_reader, hp_this_commandText, hp_this_line, hp_this_spareMoves⟩ := hn_this
    obtain ⟨hc_this_marsh, hp_this_marsh_reeds, hp_this_marsh_fleet, hp_this_marsh_plans, hp_this_marsh_landings⟩ := hp_this_marsh
    have hF := hF.tr (hfr.wide (by omega) (by omega))
    cases hf
    exact hprop hM hqE hv9 hcl9 ⟨hne, hE, ⟨hc_this, ⟨hc_this_marsh, hp_this_marsh_reeds, hp_this_marsh_fleet, hp_this_marsh_plans, hp_this_marsh_landings⟩, hp_this_snapshot, hp_this_history, hp_this_ways, hp_this_pairing, hp_this_reader, hp_this_commandText, hp_this_line, hp_this_spareMoves⟩, hF⟩ (Nat.le_of_ble_eq_true rfl) (Nat.le_of_ble_eq_true rfl)
  obtain ⟨h0, hr, hn_this, hfr⟩ := hw
  rw [if_pos h0] at hf
  rw [hr]
  obtain ⟨hc_this, hp_this_marsh, hp_this_snapshot, hp_this_history, hp_this_ways, hp_this_pairing, hp_this_reader, hp_this_commandText, hp_this_line, hp_this_spareMoves⟩ := hn_this
  obtain ⟨hc_this_marsh, hp_this_marsh_reeds, hp_this_marsh_fleet, hp_this_marsh_plans, hp_this_marsh_landings⟩ := hp_this_marsh
  have hF := hF.tr (hfr.wide (by omega) (by omega))
  cases hf
  exact hret hM dX12_addLanding_27 rfl ⟨rfl, rfl, ⟨hc_this, ⟨hc_this_marsh, hp_this_marsh_reeds, hp_this_marsh_fleet, hp_this_marsh_plans, hp_this_marsh_landings⟩, hp_this_snapshot, hp_this_history, hp_this_ways, hp_this_pairing, hp_this_reader, hp_this_commandText, hp_this_line, hp_this_spareMoves⟩, hF⟩ (Nat.le_of_ble_eq_true rfl) (Nat.le_of_ble_eq_true rfl)
def f_X12_removeLanding (K : Nat) (marsh_reeds_states : Nat → Int32) (marsh_reeds_count : Int32) (marsh_reeds_broken : Int32) (marsh_fleet_numbers : Nat → Int32) (marsh_fleet_cells : Nat → Int32) (marsh_fleet_fares : Nat → Int32) (marsh_fleet_count : Int32) (marsh_fleet_nextNumber : Int32) (marsh_fleet_total : Int32) (marsh_fleet_removedFares : Int32) (marsh_fleet_meetings : Int32) (marsh_plans_moves : Nat → Int32) (marsh_plans_lengths : Nat → Int32) (marsh_landings_cells : Nat → Int32) (marsh_landings_count : Int32) (marsh_fogSide : Int32) (history_slots : Nat → mm_MV) (history_free : Int32) (history_count : Int32) (x1 : Int32) : Option (Nat × Int32 × (Nat → Int32) × Int32 × (Nat → mm_MV) × Int32 × Int32) := (f_X4_note history_slots history_free marsh_reeds_states marsh_reeds_count marsh_reeds_broken marsh_fleet_numbers marsh_fleet_cells marsh_fleet_fares marsh_fleet_count marsh_fleet_nextNumber marsh_fleet_total marsh_fleet_removedFares marsh_fleet_meetings marsh_plans_moves marsh_plans_lengths marsh_landings_cells marsh_landings_count marsh_fogSide).bind fun q8 => (f_X5_tearDown K marsh_landings_cells marsh_landings_count x1).bind fun q20 => (f_X12_settled history_free history_count q20.1).bind fun q23 => if q23.1 = 0 then some (0, q23.2.1, q20.2.1, q20.2.2, q8, q23.2.2.1, q23.2.2.2) else some (q23.1, 0, q20.2.1, q20.2.2, q8, q23.2.2.1, q23.2.2.2)
set_option maxHeartbeats 4000000 in
set_option maxRecDepth 100000 in
theorem c_X12_removeLanding (l : Launch) (hfl : l.stackTraces = false) {G : mm_G} {K : Nat} {w : va_W} {sz : Nat} {b : Nat} {marsh_reeds_states : Nat → Int32} {marsh_reeds_count : Int32} {marsh_reeds_broken : Int32} {marsh_fleet_numbers : Nat → Int32} {marsh_fleet_cells : Nat → Int32} {marsh_fleet_fares : Nat → Int32} {marsh_fleet_count : Int32} {marsh_fleet_nextNumber : Int32} {marsh_fleet_total : Int32} {marsh_fleet_removedFares : Int32} {marsh_fleet_meetings : Int32} {marsh_plans_moves : Nat → Int32} {marsh_plans_lengths : Nat → Int32} {marsh_landings_cells : Nat → Int32} {marsh_landings_count : Int32} {marsh_fogSide : Int32} {snapshot_reeds_states : Nat → Int32} {snapshot_reeds_count : Int32} {snapshot_reeds_broken : Int32} {snapshot_fleet_numbers : Nat → Int32} {snapshot_fleet_cells : Nat → Int32} {snapshot_fleet_fares : Nat → Int32} {snapshot_fleet_count : Int32} {snapshot_fleet_nextNumber : Int32} {snapshot_fleet_total : Int32} {snapshot_fleet_removedFares : Int32} {snapshot_fleet_meetings : Int32} {snapshot_plans_moves : Nat → Int32} {snapshot_plans_lengths : Nat → Int32} {snapshot_landings_cells : Nat → Int32} {snapshot_landings_count : Int32} {snapshot_fogSide : Int32} {history_slots : Nat → mm_MV} {history_free : Int32} {history_count : Int32} {ways_tolls : Nat → Int32} {ways_queue : Nat → Int32} {ways_heap : Nat → Int32} {ways_heapSize : Int32} {ways_found : Nat → Int32} {ways_improved : Nat → Int32} {pairing_costs : Nat → Int32} {pairing_best : Nat → Int32} {reader_kinds : Nat → Int32} {reader_starts : Nat → Int32} {reader_count : Int32} {commandText_signs : Nat → Int32} {commandText_length : Int32} {line_signs : Nat → Int32} {line_length : Int32} {spareMoves : Nat → Int32} {snapshotTaken : Int32} {lastErrorPosition : Int32} {lastFailedCommand : Int32} {x1 : Int32} {X : Nat × Int32 × (Nat → Int32) × Int32 × (Nat → mm_MV) × Int32 × Int32} (hf : f_X12_removeLanding K marsh_reeds_states marsh_reeds_count marsh_reeds_broken marsh_fleet_numbers marsh_fleet_cells marsh_fleet_fares marsh_fleet_count marsh_fleet_nextNumber marsh_fleet_total marsh_fleet_removedFares marsh_fleet_meetings marsh_plans_moves marsh_plans_lengths marsh_landings_cells marsh_landings_count marsh_fogSide history_slots history_free history_count x1 = some X) (hp_this : At12 G w b marsh_reeds_states marsh_reeds_count marsh_reeds_broken marsh_fleet_numbers marsh_fleet_cells marsh_fleet_fares marsh_fleet_count marsh_fleet_nextNumber marsh_fleet_total marsh_fleet_removedFares marsh_fleet_meetings marsh_plans_moves marsh_plans_lengths marsh_landings_cells marsh_landings_count marsh_fogSide snapshot_reeds_states snapshot_reeds_count snapshot_reeds_broken snapshot_fleet_numbers snapshot_fleet_cells snapshot_fleet_fares snapshot_fleet_count snapshot_fleet_nextNumber snapshot_fleet_total snapshot_fleet_removedFares snapshot_fleet_meetings snapshot_plans_moves snapshot_plans_lengths snapshot_landings_cells snapshot_landings_count snapshot_fogSide history_slots history_free history_count ways_tolls ways_queue ways_heap ways_heapSize ways_found ways_improved pairing_costs pairing_best reader_kinds reader_starts reader_count commandText_signs commandText_length line_signs line_length spareMoves snapshotTaken lastErrorPosition lastFailedCommand) : vx_Met l yX12_removeLanding (Cond.code yX12_removeLanding cX12_removeLanding 2 (some .int) :: gAll) ({ frames := 8, cells := 1, slots := 6, locals := 141 }) (va_Pc [.ref b, .int x1] (mm_Pre G w sz)) (mm_Qi G w sz (fun r w' => X.1 = 0 ∧ r = X.2.1 ∧ At12 G w' b marsh_reeds_states marsh_reeds_count marsh_reeds_broken marsh_fleet_numbers marsh_fleet_cells marsh_fleet_fares marsh_fleet_count marsh_fleet_nextNumber marsh_fleet_total marsh_fleet_removedFares marsh_fleet_meetings marsh_plans_moves marsh_plans_lengths X.2.2.1 X.2.2.2.1 marsh_fogSide snapshot_reeds_states snapshot_reeds_count snapshot_reeds_broken snapshot_fleet_numbers snapshot_fleet_cells snapshot_fleet_fares snapshot_fleet_count snapshot_fleet_nextNumber snapshot_fleet_total snapshot_fleet_removedFares snapshot_fleet_meetings snapshot_plans_moves snapshot_plans_lengths snapshot_landings_cells snapshot_landings_count snapshot_fogSide X.2.2.2.2.1 X.2.2.2.2.2.1 X.2.2.2.2.2.2 ways_tolls ways_queue ways_heap ways_heapSize ways_found ways_improved pairing_costs pairing_best reader_kinds reader_starts reader_count commandText_signs commandText_length line_signs line_length spareMoves snapshotTaken lastErrorPosition lastFailedCommand ∧ mm_fr w w' b (b + 152))) (mm_QX G w sz (fun E w' => X.1 ≠ 0 ∧ E = mm_ex X.1 ∧ At12 G w' b marsh_reeds_states marsh_reeds_count marsh_reeds_broken marsh_fleet_numbers marsh_fleet_cells marsh_fleet_fares marsh_fleet_count marsh_fleet_nextNumber marsh_fleet_total marsh_fleet_removedFares marsh_fleet_meetings marsh_plans_moves marsh_plans_lengths X.2.2.1 X.2.2.2.1 marsh_fogSide snapshot_reeds_states snapshot_reeds_count snapshot_reeds_broken snapshot_fleet_numbers snapshot_fleet_cells snapshot_fleet_fares snapshot_fleet_count snapshot_fleet_nextNumber snapshot_fleet_total snapshot_fleet_removedFares snapshot_fleet_meetings snapshot_plans_moves snapshot_plans_lengths snapshot_landings_cells snapshot_landings_count snapshot_fogSide X.2.2.2.2.1 X.2.2.2.2.2.1 X.2.2.2.2.2.2 ways_tolls ways_queue ways_heap ways_heapSize ways_found ways_improved pairing_costs pairing_best reader_kinds reader_starts reader_count commandText_signs commandText_length line_signs line_length spareMoves snapshotTaken lastErrorPosition lastFailedCommand ∧ mm_fr w w' b (b + 152))) 1 6 (va_A w sz) := by
  refine mm_xheadI hfl [.ref b, .int x1] (by decide +kernel) rfl (Nat.le_of_ble_eq_true rfl) rfl rfl ?_
  intro p e s m args below meth c A Q hsz hC hM hret hprop hthrow ls hl
  have hx := hC.1.1
  have hb := hC.1.2.1
  have hl : lv_has ls 2 [(0, .ref b), (1, .int x1)] := hl
  have hF : mm_fr w w b (b + 152) := mm_fr.rf
  rw [f_X12_removeLanding] at hf
  obtain ⟨hc_this, hp_this_marsh, hp_this_snapshot, hp_this_history, hp_this_ways, hp_this_pairing, hp_this_reader, hp_this_commandText, hp_this_line, hp_this_spareMoves⟩ := hp_this
  obtain ⟨hc_this_marsh, hp_this_marsh_reeds, hp_this_marsh_fleet, hp_this_marsh_plans, hp_this_marsh_landings⟩ := hp_this_marsh
  refine lv_aload_n hx hb dX12_removeLanding_0 rfl (lv_at hl 0 rfl) ?_
  refine mm_get hC hM (k := 2) hc_this rfl inAX12 (by decide) q2_18 rfl dX12_removeLanding_1 ?_
  refine lv_aload_n hx hb dX12_removeLanding_4 rfl (lv_at hl 0 rfl) ?_
  refine mm_get hC hM (k := 0) hc_this rfl inAX12 (by decide) q2_16 rfl dX12_removeLanding_5 ?_
  obtain ⟨q8, hq8, hf⟩ := mm_bd hf
  refine mm_Vv (rest := []) hC hM (c_X4_note l hq8 hp_this_history ⟨hc_this_marsh, hp_this_marsh_reeds, hp_this_marsh_fleet, hp_this_marsh_plans, hp_this_marsh_landings⟩ (by omega)) q3_178 q1_7 ykX4_note q3_175 q3_176 q3_177 hp_this_history.1 rfl ⟨rfl, rfl⟩ ⟨Nat.le_of_ble_eq_true rfl, Nat.le_of_ble_eq_true rfl⟩ rfl hl.1 rfl (Nat.le_of_ble_eq_true rfl) dX12_removeLanding_8 ⟨Nat.le_of_ble_eq_true rfl, Nat.le_of_ble_eq_true rfl⟩ (fun w8 H locs hM hw => ?_)
  obtain ⟨hn_this, hfr⟩ := hw
  have hc_this := hfr.keep hc_this (by omega)
  have hp_this_spareMoves := hfr.keep hp_this_spareMoves (by omega)
  have hc_this_marsh := hfr.keep hc_this_marsh (by omega)
  have hp_this_marsh_reeds := hp_this_marsh_reeds.keep hfr (by omega)
  have hp_this_marsh_fleet := hp_this_marsh_fleet.keep hfr (by omega)
  have hp_this_marsh_plans := hp_this_marsh_plans.keep hfr (by omega)
  have hp_this_marsh_landings := hp_this_marsh_landings.keep hfr (by omega)
  have hp_this_snapshot := hp_this_snapshot.keep hfr (by omega)
  have hp_this_ways := hp_this_ways.keep hfr (by omega)
  have hp_this_pairing := hp_this_pairing.keep hfr (by omega)
  have hp_this_reader := hp_this_reader.keep hfr (by omega)
  have hp_this_commandText := hp_this_commandText.keep hfr (by omega)
  have hp_this_line := hp_this_line.keep hfr (by omega)
  have hp_this_history := hn_this
  have hF := hF.tr (hfr.wide (by omega) (by omega))
  refine lv_aload_n hx hb dX12_removeLanding_11 rfl (lv_at hl 0 rfl) ?_
  refine lv_aload_n hx hb dX12_removeLanding_12 rfl (lv_at hl 0 rfl) ?_
  refine mm_get hC hM (k := 0) hc_this rfl inAX12 (by decide) q2_16 rfl dX12_removeLanding_13 ?_
  refine mm_get hC hM (k := 3) hc_this_marsh rfl inAX6 (by decide) q1_146 rfl dX12_removeLanding_16 ?_
  refine lv_iload_n hx hb dX12_removeLanding_19 rfl (lv_at hl 1 rfl) ?_
  obtain ⟨q20, hq20, hf⟩ := mm_bd hf
  refine mm_Vi (rest := [.ref b]) hC hM (c_X5_tearDown l hq20 hp_this_marsh_landings) q5_200 q1_6 ykX5_tearDown q5_197 q5_198 q5_199 hp_this_marsh_landings.1 rfl ⟨rfl, rfl⟩ ⟨Nat.le_of_ble_eq_true rfl, Nat.le_of_ble_eq_true rfl⟩ rfl hl.1 rfl (Nat.le_of_ble_eq_true rfl) dX12_removeLanding_20 ⟨Nat.le_of_ble_eq_true rfl, Nat.le_of_ble_eq_true rfl⟩ (fun r w20 H locs hM hw => ?_)
  obtain ⟨hr, hn_this, hfr⟩ := hw
  rw [hr]
  have hc_this := hfr.keep hc_this (by omega)
  have hp_this_spareMoves := hfr.keep hp_this_spareMoves (by omega)
  have hc_this_marsh := hfr.keep hc_this_marsh (by omega)
  have hp_this_marsh_reeds := hp_this_marsh_reeds.keep hfr (by omega)
  have hp_this_marsh_fleet := hp_this_marsh_fleet.keep hfr (by omega)
  have hp_this_marsh_plans := hp_this_marsh_plans.keep hfr (by omega)
  have hp_this_snapshot := hp_this_snapshot.keep hfr (by omega)
  have hp_this_history := hp_this_history.keep hfr (by omega)
  have hp_this_ways := hp_this_ways.keep hfr (by omega)
  have hp_this_pairing := hp_this_pairing.keep hfr (by omega)
  have hp_this_reader := hp_this_reader.keep hfr (by omega)
  have hp_this_commandText := hp_this_commandText.keep hfr (by omega)
  have hp_this_line := hp_this_line.keep hfr (by omega)
  have hp_this_marsh_landings := hn_this
  have hF := hF.tr (hfr.wide (by omega) (by omega))
  obtain ⟨q23, hq23, hf⟩ := mm_bd hf
  refine mm_xVi (rest := []) hC hM (c_X12_settled l hfl hq23 ⟨hc_this, ⟨hc_this_marsh, hp_this_marsh_reeds, hp_this_marsh_fleet, hp_this_marsh_plans, hp_this_marsh_landings⟩, hp_this_snapshot, hp_this_history, hp_this_ways, hp_this_pairing, hp_this_reader, hp_this_commandText, hp_this_line, hp_this_spareMoves⟩) q3_201 q1_1 ykX12_settled q3_198 q3_200 qp_bbc23764 hc_this rfl ⟨rfl, rfl⟩ ⟨Nat.le_of_ble_eq_true rfl, Nat.le_of_ble_eq_true rfl⟩ rfl hl.1 rfl (Nat.le_of_ble_eq_true rfl) dX12_removeLanding_23 ⟨Nat.le_of_ble_eq_true rfl, Nat.le_of_ble_eq_true rfl⟩ (fun E ce qE w23 H locs hM hw hqE hv9 hcl9 => ?_) (fun r w23 H locs hM hw => ?_)
  · obtain ⟨hne, hE, hn_this, hfr⟩ := hw
    rw [if_neg hne] at hf
    obtain ⟨hc_this, hp_this_marsh, hp_this_snapshot, hp_this_history, hp_this_ways, hp_this_pairing, hp_this_reader, hp_this_commandText, hp_this_line, hp_this_spareMoves⟩ := hn_this
    obtain ⟨hc_this_marsh, hp_this_marsh_reeds, hp_this_marsh_fleet, hp_this_marsh_plans, hp_this_marsh_landings⟩ := hp_this_marsh
    have hF := hF.tr (hfr.wide (by omega) (by omega))
    cases hf
    exact hprop hM hqE hv9 hcl9 ⟨hne, hE, ⟨hc_this, ⟨hc_this_marsh, hp_this_marsh_reeds, hp_this_marsh_fleet, hp_this_marsh_plans, hp_this_marsh_landings⟩, hp_this_snapshot, hp_this_history, hp_this_ways, hp_this_pairing, hp_this_reader, hp_this_commandText, hp_this_line, hp_this_spareMoves⟩, hF⟩ (Nat.le_of_ble_eq_true rfl) (Nat.le_of_ble_eq_true rfl)
  obtain ⟨h0, hr, hn_this, hfr⟩ := hw
  rw [if_pos h0] at hf
  rw [hr]
  obtain ⟨hc_this, hp_this_marsh, hp_this_snapshot, hp_this_history, hp_this_ways, hp_this_pairing, hp_this_reader, hp_this_commandText, hp_this_line, hp_this_spareMoves⟩ := hn_this
  obtain ⟨hc_this_marsh, hp_this_marsh_reeds, hp_this_marsh_fleet, hp_this_marsh_plans, hp_this_marsh_landings⟩ := hp_this_marsh
  have hF := hF.tr (hfr.wide (by omega) (by omega))
  cases hf
  exact hret hM dX12_removeLanding_26 rfl ⟨rfl, rfl, ⟨hc_this, ⟨hc_this_marsh, hp_this_marsh_reeds, hp_this_marsh_fleet, hp_this_marsh_plans, hp_this_marsh_landings⟩, hp_this_snapshot, hp_this_history, hp_this_ways, hp_this_pairing, hp_this_reader, hp_this_commandText, hp_this_line, hp_this_spareMoves⟩, hF⟩ (Nat.le_of_ble_eq_true rfl) (Nat.le_of_ble_eq_true rfl)
def f_X12_landingCount (marsh_landings_count : Int32) : Option (Int32) := some marsh_landings_count
set_option maxHeartbeats 4000000 in
set_option maxRecDepth 100000 in
theorem c_X12_landingCount (l : Launch) {G : mm_G} {w : va_W} {sz : Nat} {b : Nat} {marsh_reeds_states : Nat → Int32} {marsh_reeds_count : Int32} {marsh_reeds_broken : Int32} {marsh_fleet_numbers : Nat → Int32} {marsh_fleet_cells : Nat → Int32} {marsh_fleet_fares : Nat → Int32} {marsh_fleet_count : Int32} {marsh_fleet_nextNumber : Int32} {marsh_fleet_total : Int32} {marsh_fleet_removedFares : Int32} {marsh_fleet_meetings : Int32} {marsh_plans_moves : Nat → Int32} {marsh_plans_lengths : Nat → Int32} {marsh_landings_cells : Nat → Int32} {marsh_landings_count : Int32} {marsh_fogSide : Int32} {snapshot_reeds_states : Nat → Int32} {snapshot_reeds_count : Int32} {snapshot_reeds_broken : Int32} {snapshot_fleet_numbers : Nat → Int32} {snapshot_fleet_cells : Nat → Int32} {snapshot_fleet_fares : Nat → Int32} {snapshot_fleet_count : Int32} {snapshot_fleet_nextNumber : Int32} {snapshot_fleet_total : Int32} {snapshot_fleet_removedFares : Int32} {snapshot_fleet_meetings : Int32} {snapshot_plans_moves : Nat → Int32} {snapshot_plans_lengths : Nat → Int32} {snapshot_landings_cells : Nat → Int32} {snapshot_landings_count : Int32} {snapshot_fogSide : Int32} {history_slots : Nat → mm_MV} {history_free : Int32} {history_count : Int32} {ways_tolls : Nat → Int32} {ways_queue : Nat → Int32} {ways_heap : Nat → Int32} {ways_heapSize : Int32} {ways_found : Nat → Int32} {ways_improved : Nat → Int32} {pairing_costs : Nat → Int32} {pairing_best : Nat → Int32} {reader_kinds : Nat → Int32} {reader_starts : Nat → Int32} {reader_count : Int32} {commandText_signs : Nat → Int32} {commandText_length : Int32} {line_signs : Nat → Int32} {line_length : Int32} {spareMoves : Nat → Int32} {snapshotTaken : Int32} {lastErrorPosition : Int32} {lastFailedCommand : Int32} {X : Int32} (hf : f_X12_landingCount marsh_landings_count = some X) (hp_this : At12 G w b marsh_reeds_states marsh_reeds_count marsh_reeds_broken marsh_fleet_numbers marsh_fleet_cells marsh_fleet_fares marsh_fleet_count marsh_fleet_nextNumber marsh_fleet_total marsh_fleet_removedFares marsh_fleet_meetings marsh_plans_moves marsh_plans_lengths marsh_landings_cells marsh_landings_count marsh_fogSide snapshot_reeds_states snapshot_reeds_count snapshot_reeds_broken snapshot_fleet_numbers snapshot_fleet_cells snapshot_fleet_fares snapshot_fleet_count snapshot_fleet_nextNumber snapshot_fleet_total snapshot_fleet_removedFares snapshot_fleet_meetings snapshot_plans_moves snapshot_plans_lengths snapshot_landings_cells snapshot_landings_count snapshot_fogSide history_slots history_free history_count ways_tolls ways_queue ways_heap ways_heapSize ways_found ways_improved pairing_costs pairing_best reader_kinds reader_starts reader_count commandText_signs commandText_length line_signs line_length spareMoves snapshotTaken lastErrorPosition lastFailedCommand) : Met l yX12_landingCount (Cond.code yX12_landingCount cX12_landingCount 1 (some .int) :: gAll) ({ frames := 0, cells := 0, slots := 0, locals := 0 }) (va_Pc [.ref b] (mm_Pre G w sz)) (mm_Qi G w sz (fun r w' => r = X ∧ w' = w)) 0 0 (va_A w sz) := by
  refine mm_headI [.ref b] (by decide +kernel) rfl (Nat.le_of_ble_eq_true rfl) ?_
  intro p e s m args below meth c A Q hsz hC hM hret ls hl
  have hx := hC.1.1
  have hb := hC.1.2.1
  have hl : lv_has ls 1 [(0, .ref b)] := hl
  rw [f_X12_landingCount] at hf
  refine lv_aload_n hx hb dX12_landingCount_0 rfl (lv_at hl 0 rfl) ?_
  refine mm_get hC hM (k := 0) hp_this.1 rfl inAX12 (by decide) q2_16 rfl dX12_landingCount_1 ?_
  refine mm_get hC hM (k := 3) (hp_this.2.1).1 rfl inAX6 (by decide) q1_146 rfl dX12_landingCount_4 ?_
  refine mm_get hC hM (k := 1) ((hp_this.2.1).2.2.2.2).1 rfl inAX5 (by decide) q1_132 rfl dX12_landingCount_7 ?_
  cases hf
  exact hret hM dX12_landingCount_10 rfl ⟨rfl, rfl⟩
def f_X12_requireEvenLandings (marsh_landings_count : Int32) : Option (Nat) := if (marsh_landings_count - marsh_landings_count / 2 * 2) = 0 then some 0 else some 3
set_option maxHeartbeats 4000000 in
set_option maxRecDepth 100000 in
theorem c_X12_requireEvenLandings (l : Launch) (hfl : l.stackTraces = false) {G : mm_G} {w : va_W} {sz : Nat} {b : Nat} {marsh_reeds_states : Nat → Int32} {marsh_reeds_count : Int32} {marsh_reeds_broken : Int32} {marsh_fleet_numbers : Nat → Int32} {marsh_fleet_cells : Nat → Int32} {marsh_fleet_fares : Nat → Int32} {marsh_fleet_count : Int32} {marsh_fleet_nextNumber : Int32} {marsh_fleet_total : Int32} {marsh_fleet_removedFares : Int32} {marsh_fleet_meetings : Int32} {marsh_plans_moves : Nat → Int32} {marsh_plans_lengths : Nat → Int32} {marsh_landings_cells : Nat → Int32} {marsh_landings_count : Int32} {marsh_fogSide : Int32} {snapshot_reeds_states : Nat → Int32} {snapshot_reeds_count : Int32} {snapshot_reeds_broken : Int32} {snapshot_fleet_numbers : Nat → Int32} {snapshot_fleet_cells : Nat → Int32} {snapshot_fleet_fares : Nat → Int32} {snapshot_fleet_count : Int32} {snapshot_fleet_nextNumber : Int32} {snapshot_fleet_total : Int32} {snapshot_fleet_removedFares : Int32} {snapshot_fleet_meetings : Int32} {snapshot_plans_moves : Nat → Int32} {snapshot_plans_lengths : Nat → Int32} {snapshot_landings_cells : Nat → Int32} {snapshot_landings_count : Int32} {snapshot_fogSide : Int32} {history_slots : Nat → mm_MV} {history_free : Int32} {history_count : Int32} {ways_tolls : Nat → Int32} {ways_queue : Nat → Int32} {ways_heap : Nat → Int32} {ways_heapSize : Int32} {ways_found : Nat → Int32} {ways_improved : Nat → Int32} {pairing_costs : Nat → Int32} {pairing_best : Nat → Int32} {reader_kinds : Nat → Int32} {reader_starts : Nat → Int32} {reader_count : Int32} {commandText_signs : Nat → Int32} {commandText_length : Int32} {line_signs : Nat → Int32} {line_length : Int32} {spareMoves : Nat → Int32} {snapshotTaken : Int32} {lastErrorPosition : Int32} {lastFailedCommand : Int32} {X : Nat} (hf : f_X12_requireEvenLandings marsh_landings_count = some X) (hp_this : At12 G w b marsh_reeds_states marsh_reeds_count marsh_reeds_broken marsh_fleet_numbers marsh_fleet_cells marsh_fleet_fares marsh_fleet_count marsh_fleet_nextNumber marsh_fleet_total marsh_fleet_removedFares marsh_fleet_meetings marsh_plans_moves marsh_plans_lengths marsh_landings_cells marsh_landings_count marsh_fogSide snapshot_reeds_states snapshot_reeds_count snapshot_reeds_broken snapshot_fleet_numbers snapshot_fleet_cells snapshot_fleet_fares snapshot_fleet_count snapshot_fleet_nextNumber snapshot_fleet_total snapshot_fleet_removedFares snapshot_fleet_meetings snapshot_plans_moves snapshot_plans_lengths snapshot_landings_cells snapshot_landings_count snapshot_fogSide history_slots history_free history_count ways_tolls ways_queue ways_heap ways_heapSize ways_found ways_improved pairing_costs pairing_best reader_kinds reader_starts reader_count commandText_signs commandText_length line_signs line_length spareMoves snapshotTaken lastErrorPosition lastFailedCommand) : vx_Met l yX12_requireEvenLandings (Cond.code yX12_requireEvenLandings cX12_requireEvenLandings 1 none :: gAll) ({ frames := 7, cells := 1, slots := 6, locals := 120 }) (va_Pc [.ref b] (mm_Pre G w sz)) (mm_Qv G w sz (fun w' => X = 0 ∧ w' = w)) (mm_QX G w sz (fun E w' => X ≠ 0 ∧ E = mm_ex X ∧ w' = w)) 1 6 (va_A w sz) := by
  refine mm_xheadV hfl [.ref b] (by decide +kernel) rfl (Nat.le_of_ble_eq_true rfl) rfl rfl ?_
  intro p e s m args below meth c A Q hsz hC hM hret hprop hthrow ls hl
  have hx := hC.1.1
  have hb := hC.1.2.1
  have hl : lv_has ls 1 [(0, .ref b)] := hl
  rw [f_X12_requireEvenLandings] at hf
  refine lv_aload_n hx hb dX12_requireEvenLandings_0 rfl (lv_at hl 0 rfl) ?_
  refine mm_get hC hM (k := 0) hp_this.1 rfl inAX12 (by decide) q2_16 rfl dX12_requireEvenLandings_1 ?_
  refine mm_get hC hM (k := 3) (hp_this.2.1).1 rfl inAX6 (by decide) q1_146 rfl dX12_requireEvenLandings_4 ?_
  refine mm_get hC hM (k := 1) ((hp_this.2.1).2.2.2.2).1 rfl inAX5 (by decide) q1_132 rfl dX12_requireEvenLandings_7 ?_
  refine lv_iconst (v := 2) hx hb dX12_requireEvenLandings_10 (by decide) ?_
  refine lv_irem hx hb dX12_requireEvenLandings_11 (by decide) ?_
  refine lv_if_eq (tgt := 23) hx hb dX12_requireEvenLandings_12 (by decide) (fun hcd => ?_) (fun hcd => ?_)
  · rw [if_pos hcd] at hf
    cases hf
    exact hret hM dX12_requireEvenLandings_23 ⟨rfl, rfl⟩ (Nat.le_of_ble_eq_true rfl) (Nat.le_of_ble_eq_true rfl)
  · rw [if_neg hcd] at hf
    cases hf
    exact hthrow (names := ["java/lang/RuntimeException", "java/lang/Exception"]) hM hl.1 (by decide +kernel) (by decide +kernel) q3_238 q1_21 vxa_3 vxb_3 dX12_requireEvenLandings_15 dX12_requireEvenLandings_18 dX12_requireEvenLandings_19 dX12_requireEvenLandings_22 (by decide) (Nat.le_of_ble_eq_true rfl) (Nat.le_of_ble_eq_true rfl) (Nat.le_of_ble_eq_true rfl) ⟨(by simp), rfl, rfl⟩
def f_X12_pairingCost (K : Nat) (marsh_landings_cells : Nat → Int32) (marsh_landings_count : Int32) (pairing_costs : Nat → Int32) (pairing_best : Nat → Int32) : Option (Nat × Int32 × (Nat → Int32) × (Nat → Int32)) := (f_X12_requireEvenLandings marsh_landings_count).bind fun q1 => if q1 = 0 then (f_X7_costByTable K pairing_costs pairing_best marsh_landings_cells marsh_landings_count).bind fun q15 => some (0, q15.1, q15.2.1, q15.2.2) else some (q1, 0, pairing_costs, pairing_best)
set_option maxHeartbeats 4000000 in
set_option maxRecDepth 100000 in
theorem c_X12_pairingCost (l : Launch) (hfl : l.stackTraces = false) {G : mm_G} {K : Nat} {w : va_W} {sz : Nat} {b : Nat} {marsh_reeds_states : Nat → Int32} {marsh_reeds_count : Int32} {marsh_reeds_broken : Int32} {marsh_fleet_numbers : Nat → Int32} {marsh_fleet_cells : Nat → Int32} {marsh_fleet_fares : Nat → Int32} {marsh_fleet_count : Int32} {marsh_fleet_nextNumber : Int32} {marsh_fleet_total : Int32} {marsh_fleet_removedFares : Int32} {marsh_fleet_meetings : Int32} {marsh_plans_moves : Nat → Int32} {marsh_plans_lengths : Nat → Int32} {marsh_landings_cells : Nat → Int32} {marsh_landings_count : Int32} {marsh_fogSide : Int32} {snapshot_reeds_states : Nat → Int32} {snapshot_reeds_count : Int32} {snapshot_reeds_broken : Int32} {snapshot_fleet_numbers : Nat → Int32} {snapshot_fleet_cells : Nat → Int32} {snapshot_fleet_fares : Nat → Int32} {snapshot_fleet_count : Int32} {snapshot_fleet_nextNumber : Int32} {snapshot_fleet_total : Int32} {snapshot_fleet_removedFares : Int32} {snapshot_fleet_meetings : Int32} {snapshot_plans_moves : Nat → Int32} {snapshot_plans_lengths : Nat → Int32} {snapshot_landings_cells : Nat → Int32} {snapshot_landings_count : Int32} {snapshot_fogSide : Int32} {history_slots : Nat → mm_MV} {history_free : Int32} {history_count : Int32} {ways_tolls : Nat → Int32} {ways_queue : Nat → Int32} {ways_heap : Nat → Int32} {ways_heapSize : Int32} {ways_found : Nat → Int32} {ways_improved : Nat → Int32} {pairing_costs : Nat → Int32} {pairing_best : Nat → Int32} {reader_kinds : Nat → Int32} {reader_starts : Nat → Int32} {reader_count : Int32} {commandText_signs : Nat → Int32} {commandText_length : Int32} {line_signs : Nat → Int32} {line_length : Int32} {spareMoves : Nat → Int32} {snapshotTaken : Int32} {lastErrorPosition : Int32} {lastFailedCommand : Int32} {X : Nat × Int32 × (Nat → Int32) × (Nat → Int32)} (hf : f_X12_pairingCost K marsh_landings_cells marsh_landings_count pairing_costs pairing_best = some X) (hp_this : At12 G w b marsh_reeds_states marsh_reeds_count marsh_reeds_broken marsh_fleet_numbers marsh_fleet_cells marsh_fleet_fares marsh_fleet_count marsh_fleet_nextNumber marsh_fleet_total marsh_fleet_removedFares marsh_fleet_meetings marsh_plans_moves marsh_plans_lengths marsh_landings_cells marsh_landings_count marsh_fogSide snapshot_reeds_states snapshot_reeds_count snapshot_reeds_broken snapshot_fleet_numbers snapshot_fleet_cells snapshot_fleet_fares snapshot_fleet_count snapshot_fleet_nextNumber snapshot_fleet_total snapshot_fleet_removedFares snapshot_fleet_meetings snapshot_plans_moves snapshot_plans_lengths snapshot_landings_cells snapshot_landings_count snapshot_fogSide history_slots history_free history_count ways_tolls ways_queue ways_heap ways_heapSize ways_found ways_improved pairing_costs pairing_best reader_kinds reader_starts reader_count commandText_signs commandText_length line_signs line_length spareMoves snapshotTaken lastErrorPosition lastFailedCommand) : vx_Met l yX12_pairingCost (Cond.code yX12_pairingCost cX12_pairingCost 1 (some .int) :: gAll) ({ frames := 8, cells := 1, slots := 6, locals := 140 }) (va_Pc [.ref b] (mm_Pre G w sz)) (mm_Qi G w sz (fun r w' => X.1 = 0 ∧ r = X.2.1 ∧ At12 G w' b marsh_reeds_states marsh_reeds_count marsh_reeds_broken marsh_fleet_numbers marsh_fleet_cells marsh_fleet_fares marsh_fleet_count marsh_fleet_nextNumber marsh_fleet_total marsh_fleet_removedFares marsh_fleet_meetings marsh_plans_moves marsh_plans_lengths marsh_landings_cells marsh_landings_count marsh_fogSide snapshot_reeds_states snapshot_reeds_count snapshot_reeds_broken snapshot_fleet_numbers snapshot_fleet_cells snapshot_fleet_fares snapshot_fleet_count snapshot_fleet_nextNumber snapshot_fleet_total snapshot_fleet_removedFares snapshot_fleet_meetings snapshot_plans_moves snapshot_plans_lengths snapshot_landings_cells snapshot_landings_count snapshot_fogSide history_slots history_free history_count ways_tolls ways_queue ways_heap ways_heapSize ways_found ways_improved X.2.2.1 X.2.2.2 reader_kinds reader_starts reader_count commandText_signs commandText_length line_signs line_length spareMoves snapshotTaken lastErrorPosition lastFailedCommand ∧ mm_fr w w' b (b + 152))) (mm_QX G w sz (fun E w' => X.1 ≠ 0 ∧ E = mm_ex X.1 ∧ At12 G w' b marsh_reeds_states marsh_reeds_count marsh_reeds_broken marsh_fleet_numbers marsh_fleet_cells marsh_fleet_fares marsh_fleet_count marsh_fleet_nextNumber marsh_fleet_total marsh_fleet_removedFares marsh_fleet_meetings marsh_plans_moves marsh_plans_lengths marsh_landings_cells marsh_landings_count marsh_fogSide snapshot_reeds_states snapshot_reeds_count snapshot_reeds_broken snapshot_fleet_numbers snapshot_fleet_cells snapshot_fleet_fares snapshot_fleet_count snapshot_fleet_nextNumber snapshot_fleet_total snapshot_fleet_removedFares snapshot_fleet_meetings snapshot_plans_moves snapshot_plans_lengths snapshot_landings_cells snapshot_landings_count snapshot_fogSide history_slots history_free history_count ways_tolls ways_queue ways_heap ways_heapSize ways_found ways_improved X.2.2.1 X.2.2.2 reader_kinds reader_starts reader_count commandText_signs commandText_length line_signs line_length spareMoves snapshotTaken lastErrorPosition lastFailedCommand ∧ mm_fr w w' b (b + 152))) 1 6 (va_A w sz) := by
  refine mm_xheadI hfl [.ref b] (by decide +kernel) rfl (Nat.le_of_ble_eq_true rfl) rfl rfl ?_
  intro p e s m args below meth c A Q hsz hC hM hret hprop hthrow ls hl
  have hx := hC.1.1
  have hb := hC.1.2.1
  have hl : lv_has ls 1 [(0, .ref b)] := hl
  have hF : mm_fr w w b (b + 152) := mm_fr.rf
  rw [f_X12_pairingCost] at hf
  obtain ⟨hc_this, hp_this_marsh, hp_this_snapshot, hp_this_history, hp_this_ways, hp_this_pairing, hp_this_reader, hp_this_commandText, hp_this_line, hp_this_spareMoves⟩ := hp_this
  refine lv_aload_n hx hb dX12_pairingCost_0 rfl (lv_at hl 0 rfl) ?_
  obtain ⟨q1, hq1, hf⟩ := mm_bd hf
  refine mm_xVv (rest := []) hC hM (c_X12_requireEvenLandings l hfl hq1 ⟨hc_this, hp_this_marsh, hp_this_snapshot, hp_this_history, hp_this_ways, hp_this_pairing, hp_this_reader, hp_this_commandText, hp_this_line, hp_this_spareMoves⟩) q5_211 q1_1 ykX12_requireEvenLandings q5_208 q5_210 qp_4bd74ff9 hc_this rfl ⟨rfl, rfl⟩ ⟨Nat.le_of_ble_eq_true rfl, Nat.le_of_ble_eq_true rfl⟩ rfl hl.1 rfl (Nat.le_of_ble_eq_true rfl) dX12_pairingCost_1 ⟨Nat.le_of_ble_eq_true rfl, Nat.le_of_ble_eq_true rfl⟩ (fun E ce qE w1 H locs hM hw hqE hv9 hcl9 => ?_) (fun w1 H locs hM hw => ?_)
  · obtain ⟨hne, hE, hw⟩ := hw
    rw [if_neg hne] at hf
    rw [hw] at hM
    cases hf
    exact hprop hM hqE hv9 hcl9 ⟨hne, hE, ⟨hc_this, hp_this_marsh, hp_this_snapshot, hp_this_history, hp_this_ways, hp_this_pairing, hp_this_reader, hp_this_commandText, hp_this_line, hp_this_spareMoves⟩, hF⟩ (Nat.le_of_ble_eq_true rfl) (Nat.le_of_ble_eq_true rfl)
  obtain ⟨h0, hw⟩ := hw
  rw [if_pos h0] at hf
  rw [hw] at hM
  refine lv_aload_n hx hb dX12_pairingCost_4 rfl (lv_at hl 0 rfl) ?_
  refine mm_get hC hM (k := 4) hc_this rfl inAX12 (by decide) q2_20 rfl dX12_pairingCost_5 ?_
  refine lv_aload_n hx hb dX12_pairingCost_8 rfl (lv_at hl 0 rfl) ?_
  refine mm_get hC hM (k := 0) hc_this rfl inAX12 (by decide) q2_16 rfl dX12_pairingCost_9 ?_
  refine mm_get hC hM (k := 3) hp_this_marsh.1 rfl inAX6 (by decide) q1_146 rfl dX12_pairingCost_12 ?_
  obtain ⟨q15, hq15, hf⟩ := mm_bd hf
  refine mm_Vi (rest := []) hC hM (c_X7_costByTable l hq15 hp_this_pairing (hp_this_marsh.2.2.2.2) (by omega)) q3_6 q1_9 ykX7_costByTable q3_3 q3_4 q3_5 hp_this_pairing.1 rfl ⟨rfl, rfl⟩ ⟨Nat.le_of_ble_eq_true rfl, Nat.le_of_ble_eq_true rfl⟩ rfl hl.1 rfl (Nat.le_of_ble_eq_true rfl) dX12_pairingCost_15 ⟨Nat.le_of_ble_eq_true rfl, Nat.le_of_ble_eq_true rfl⟩ (fun r w15 H locs hM hw => ?_)
  obtain ⟨hr, hn_this, hfr⟩ := hw
  rw [hr]
  have hc_this := hfr.keep hc_this (by omega)
  have hp_this_spareMoves := hfr.keep hp_this_spareMoves (by omega)
  have hp_this_marsh := hp_this_marsh.keep hfr (by omega)
  have hp_this_snapshot := hp_this_snapshot.keep hfr (by omega)
  have hp_this_history := hp_this_history.keep hfr (by omega)
  have hp_this_ways := hp_this_ways.keep hfr (by omega)
  have hp_this_reader := hp_this_reader.keep hfr (by omega)
  have hp_this_commandText := hp_this_commandText.keep hfr (by omega)
  have hp_this_line := hp_this_line.keep hfr (by omega)
  have hp_this_pairing := hn_this
  have hF := hF.tr (hfr.wide (by omega) (by omega))
  cases hf
  exact hret hM dX12_pairingCost_18 rfl ⟨rfl, rfl, ⟨hc_this, hp_this_marsh, hp_this_snapshot, hp_this_history, hp_this_ways, hp_this_pairing, hp_this_reader, hp_this_commandText, hp_this_line, hp_this_spareMoves⟩, hF⟩ (Nat.le_of_ble_eq_true rfl) (Nat.le_of_ble_eq_true rfl)
def f_X12_pairingCostBySearch (K : Nat) (marsh_landings_cells : Nat → Int32) (marsh_landings_count : Int32) (pairing_costs : Nat → Int32) : Option (Nat × Int32 × (Nat → Int32)) := (f_X12_requireEvenLandings marsh_landings_count).bind fun q1 => if q1 = 0 then (f_X7_costByTrying K pairing_costs marsh_landings_cells marsh_landings_count).bind fun q15 => some (0, q15.1, q15.2) else some (q1, 0, pairing_costs)
set_option maxHeartbeats 4000000 in
set_option maxRecDepth 100000 in
theorem c_X12_pairingCostBySearch (l : Launch) (hfl : l.stackTraces = false) {G : mm_G} {K : Nat} {w : va_W} {sz : Nat} {b : Nat} {marsh_reeds_states : Nat → Int32} {marsh_reeds_count : Int32} {marsh_reeds_broken : Int32} {marsh_fleet_numbers : Nat → Int32} {marsh_fleet_cells : Nat → Int32} {marsh_fleet_fares : Nat → Int32} {marsh_fleet_count : Int32} {marsh_fleet_nextNumber : Int32} {marsh_fleet_total : Int32} {marsh_fleet_removedFares : Int32} {marsh_fleet_meetings : Int32} {marsh_plans_moves : Nat → Int32} {marsh_plans_lengths : Nat → Int32} {marsh_landings_cells : Nat → Int32} {marsh_landings_count : Int32} {marsh_fogSide : Int32} {snapshot_reeds_states : Nat → Int32} {snapshot_reeds_count : Int32} {snapshot_reeds_broken : Int32} {snapshot_fleet_numbers : Nat → Int32} {snapshot_fleet_cells : Nat → Int32} {snapshot_fleet_fares : Nat → Int32} {snapshot_fleet_count : Int32} {snapshot_fleet_nextNumber : Int32} {snapshot_fleet_total : Int32} {snapshot_fleet_removedFares : Int32} {snapshot_fleet_meetings : Int32} {snapshot_plans_moves : Nat → Int32} {snapshot_plans_lengths : Nat → Int32} {snapshot_landings_cells : Nat → Int32} {snapshot_landings_count : Int32} {snapshot_fogSide : Int32} {history_slots : Nat → mm_MV} {history_free : Int32} {history_count : Int32} {ways_tolls : Nat → Int32} {ways_queue : Nat → Int32} {ways_heap : Nat → Int32} {ways_heapSize : Int32} {ways_found : Nat → Int32} {ways_improved : Nat → Int32} {pairing_costs : Nat → Int32} {pairing_best : Nat → Int32} {reader_kinds : Nat → Int32} {reader_starts : Nat → Int32} {reader_count : Int32} {commandText_signs : Nat → Int32} {commandText_length : Int32} {line_signs : Nat → Int32} {line_length : Int32} {spareMoves : Nat → Int32} {snapshotTaken : Int32} {lastErrorPosition : Int32} {lastFailedCommand : Int32} {X : Nat × Int32 × (Nat → Int32)} (hf : f_X12_pairingCostBySearch K marsh_landings_cells marsh_landings_count pairing_costs = some X) (hp_this : At12 G w b marsh_reeds_states marsh_reeds_count marsh_reeds_broken marsh_fleet_numbers marsh_fleet_cells marsh_fleet_fares marsh_fleet_count marsh_fleet_nextNumber marsh_fleet_total marsh_fleet_removedFares marsh_fleet_meetings marsh_plans_moves marsh_plans_lengths marsh_landings_cells marsh_landings_count marsh_fogSide snapshot_reeds_states snapshot_reeds_count snapshot_reeds_broken snapshot_fleet_numbers snapshot_fleet_cells snapshot_fleet_fares snapshot_fleet_count snapshot_fleet_nextNumber snapshot_fleet_total snapshot_fleet_removedFares snapshot_fleet_meetings snapshot_plans_moves snapshot_plans_lengths snapshot_landings_cells snapshot_landings_count snapshot_fogSide history_slots history_free history_count ways_tolls ways_queue ways_heap ways_heapSize ways_found ways_improved pairing_costs pairing_best reader_kinds reader_starts reader_count commandText_signs commandText_length line_signs line_length spareMoves snapshotTaken lastErrorPosition lastFailedCommand) : vx_Met l yX12_pairingCostBySearch (Cond.code yX12_pairingCostBySearch cX12_pairingCostBySearch 1 (some .int) :: gAll) ({ frames := 8, cells := 1, slots := 6, locals := 193 }) (va_Pc [.ref b] (mm_Pre G w sz)) (mm_Qi G w sz (fun r w' => X.1 = 0 ∧ r = X.2.1 ∧ At12 G w' b marsh_reeds_states marsh_reeds_count marsh_reeds_broken marsh_fleet_numbers marsh_fleet_cells marsh_fleet_fares marsh_fleet_count marsh_fleet_nextNumber marsh_fleet_total marsh_fleet_removedFares marsh_fleet_meetings marsh_plans_moves marsh_plans_lengths marsh_landings_cells marsh_landings_count marsh_fogSide snapshot_reeds_states snapshot_reeds_count snapshot_reeds_broken snapshot_fleet_numbers snapshot_fleet_cells snapshot_fleet_fares snapshot_fleet_count snapshot_fleet_nextNumber snapshot_fleet_total snapshot_fleet_removedFares snapshot_fleet_meetings snapshot_plans_moves snapshot_plans_lengths snapshot_landings_cells snapshot_landings_count snapshot_fogSide history_slots history_free history_count ways_tolls ways_queue ways_heap ways_heapSize ways_found ways_improved X.2.2 pairing_best reader_kinds reader_starts reader_count commandText_signs commandText_length line_signs line_length spareMoves snapshotTaken lastErrorPosition lastFailedCommand ∧ mm_fr w w' b (b + 152))) (mm_QX G w sz (fun E w' => X.1 ≠ 0 ∧ E = mm_ex X.1 ∧ At12 G w' b marsh_reeds_states marsh_reeds_count marsh_reeds_broken marsh_fleet_numbers marsh_fleet_cells marsh_fleet_fares marsh_fleet_count marsh_fleet_nextNumber marsh_fleet_total marsh_fleet_removedFares marsh_fleet_meetings marsh_plans_moves marsh_plans_lengths marsh_landings_cells marsh_landings_count marsh_fogSide snapshot_reeds_states snapshot_reeds_count snapshot_reeds_broken snapshot_fleet_numbers snapshot_fleet_cells snapshot_fleet_fares snapshot_fleet_count snapshot_fleet_nextNumber snapshot_fleet_total snapshot_fleet_removedFares snapshot_fleet_meetings snapshot_plans_moves snapshot_plans_lengths snapshot_landings_cells snapshot_landings_count snapshot_fogSide history_slots history_free history_count ways_tolls ways_queue ways_heap ways_heapSize ways_found ways_improved X.2.2 pairing_best reader_kinds reader_starts reader_count commandText_signs commandText_length line_signs line_length spareMoves snapshotTaken lastErrorPosition lastFailedCommand ∧ mm_fr w w' b (b + 152))) 1 6 (va_A w sz) := by
  refine mm_xheadI hfl [.ref b] (by decide +kernel) rfl (Nat.le_of_ble_eq_true rfl) rfl rfl ?_
  intro p e s m args below meth c A Q hsz hC hM hret hprop hthrow ls hl
  have hx := hC.1.1
  have hb := hC.1.2.1
  have hl : lv_has ls 1 [(0, .ref b)] := hl
  have hF : mm_fr w w b (b + 152) := mm_fr.rf
  rw [f_X12_pairingCostBySearch] at hf
  obtain ⟨hc_this, hp_this_marsh, hp_this_snapshot, hp_this_history, hp_this_ways, hp_this_pairing, hp_this_reader, hp_this_commandText, hp_this_line, hp_this_spareMoves⟩ := hp_this
  refine lv_aload_n hx hb dX12_pairingCostBySearch_0 rfl (lv_at hl 0 rfl) ?_
  obtain ⟨q1, hq1, hf⟩ := mm_bd hf
  refine mm_xVv (rest := []) hC hM (c_X12_requireEvenLandings l hfl hq1 ⟨hc_this, hp_this_marsh, hp_this_snapshot, hp_this_history, hp_this_ways, hp_this_pairing, hp_this_reader, hp_this_commandText, hp_this_line, hp_this_spareMoves⟩) q5_211 q1_1 ykX12_requireEvenLandings q5_208 q5_210 qp_4bd74ff9 hc_this rfl ⟨rfl, rfl⟩ ⟨Nat.le_of_ble_eq_true rfl, Nat.le_of_ble_eq_true rfl⟩ rfl hl.1 rfl (Nat.le_of_ble_eq_true rfl) dX12_pairingCostBySearch_1 ⟨Nat.le_of_ble_eq_true rfl, Nat.le_of_ble_eq_true rfl⟩ (fun E ce qE w1 H locs hM hw hqE hv9 hcl9 => ?_) (fun w1 H locs hM hw => ?_)
  · obtain ⟨hne, hE, hw⟩ := hw
    rw [if_neg hne] at hf
    rw [hw] at hM
    cases hf
    exact hprop hM hqE hv9 hcl9 ⟨hne, hE, ⟨hc_this, hp_this_marsh, hp_this_snapshot, hp_this_history, hp_this_ways, hp_this_pairing, hp_this_reader, hp_this_commandText, hp_this_line, hp_this_spareMoves⟩, hF⟩ (Nat.le_of_ble_eq_true rfl) (Nat.le_of_ble_eq_true rfl)
  obtain ⟨h0, hw⟩ := hw
  rw [if_pos h0] at hf
  rw [hw] at hM
  refine lv_aload_n hx hb dX12_pairingCostBySearch_4 rfl (lv_at hl 0 rfl) ?_
  refine mm_get hC hM (k := 4) hc_this rfl inAX12 (by decide) q2_20 rfl dX12_pairingCostBySearch_5 ?_
  refine lv_aload_n hx hb dX12_pairingCostBySearch_8 rfl (lv_at hl 0 rfl) ?_
  refine mm_get hC hM (k := 0) hc_this rfl inAX12 (by decide) q2_16 rfl dX12_pairingCostBySearch_9 ?_
  refine mm_get hC hM (k := 3) hp_this_marsh.1 rfl inAX6 (by decide) q1_146 rfl dX12_pairingCostBySearch_12 ?_
  obtain ⟨q15, hq15, hf⟩ := mm_bd hf
  refine mm_Vi (rest := []) hC hM (c_X7_costByTrying l hq15 hp_this_pairing (hp_this_marsh.2.2.2.2) (by omega)) q3_54 q1_9 ykX7_costByTrying q3_51 q3_52 q3_53 hp_this_pairing.1 rfl ⟨rfl, rfl⟩ ⟨Nat.le_of_ble_eq_true rfl, Nat.le_of_ble_eq_true rfl⟩ rfl hl.1 rfl (Nat.le_of_ble_eq_true rfl) dX12_pairingCostBySearch_15 ⟨Nat.le_of_ble_eq_true rfl, Nat.le_of_ble_eq_true rfl⟩ (fun r w15 H locs hM hw => ?_)
  obtain ⟨hr, hn_this, hfr⟩ := hw
  rw [hr]
  have hc_this := hfr.keep hc_this (by omega)
  have hp_this_spareMoves := hfr.keep hp_this_spareMoves (by omega)
  have hp_this_marsh := hp_this_marsh.keep hfr (by omega)
  have hp_this_snapshot := hp_this_snapshot.keep hfr (by omega)
  have hp_this_history := hp_this_history.keep hfr (by omega)
  have hp_this_ways := hp_this_ways.keep hfr (by omega)
  have hp_this_reader := hp_this_reader.keep hfr (by omega)
  have hp_this_commandText := hp_this_commandText.keep hfr (by omega)
  have hp_this_line := hp_this_line.keep hfr (by omega)
  have hp_this_pairing := hn_this
  have hF := hF.tr (hfr.wide (by omega) (by omega))
  cases hf
  exact hret hM dX12_pairingCostBySearch_18 rfl ⟨rfl, rfl, ⟨hc_this, hp_this_marsh, hp_this_snapshot, hp_this_history, hp_this_ways, hp_this_pairing, hp_this_reader, hp_this_commandText, hp_this_line, hp_this_spareMoves⟩, hF⟩ (Nat.le_of_ble_eq_true rfl) (Nat.le_of_ble_eq_true rfl)
def f_X12_partnerOf (K : Nat) (marsh_landings_cells : Nat → Int32) (marsh_landings_count : Int32) (pairing_costs : Nat → Int32) (pairing_best : Nat → Int32) (x1 : Int32) : Option (Nat × Int32 × (Nat → Int32) × (Nat → Int32)) := if x1 < 0 then some (1, 0, pairing_costs, pairing_best) else if x1 < marsh_landings_count then (f_X12_requireEvenLandings marsh_landings_count).bind fun q27 => if q27 = 0 then (f_X7_bestPartner K pairing_costs pairing_best marsh_landings_cells marsh_landings_count x1).bind fun q42 => some (0, q42.1, q42.2.1, q42.2.2) else some (q27, 0, pairing_costs, pairing_best) else some (1, 0, pairing_costs, pairing_best)
set_option maxHeartbeats 4000000 in
set_option maxRecDepth 100000 in
theorem c_X12_partnerOf (l : Launch) (hfl : l.stackTraces = false) {G : mm_G} {K : Nat} {w : va_W} {sz : Nat} {b : Nat} {marsh_reeds_states : Nat → Int32} {marsh_reeds_count : Int32} {marsh_reeds_broken : Int32} {marsh_fleet_numbers : Nat → Int32} {marsh_fleet_cells : Nat → Int32} {marsh_fleet_fares : Nat → Int32} {marsh_fleet_count : Int32} {marsh_fleet_nextNumber : Int32} {marsh_fleet_total : Int32} {marsh_fleet_removedFares : Int32} {marsh_fleet_meetings : Int32} {marsh_plans_moves : Nat → Int32} {marsh_plans_lengths : Nat → Int32} {marsh_landings_cells : Nat → Int32} {marsh_landings_count : Int32} {marsh_fogSide : Int32} {snapshot_reeds_states : Nat → Int32} {snapshot_reeds_count : Int32} {snapshot_reeds_broken : Int32} {snapshot_fleet_numbers : Nat → Int32} {snapshot_fleet_cells : Nat → Int32} {snapshot_fleet_fares : Nat → Int32} {snapshot_fleet_count : Int32} {snapshot_fleet_nextNumber : Int32} {snapshot_fleet_total : Int32} {snapshot_fleet_removedFares : Int32} {snapshot_fleet_meetings : Int32} {snapshot_plans_moves : Nat → Int32} {snapshot_plans_lengths : Nat → Int32} {snapshot_landings_cells : Nat → Int32} {snapshot_landings_count : Int32} {snapshot_fogSide : Int32} {history_slots : Nat → mm_MV} {history_free : Int32} {history_count : Int32} {ways_tolls : Nat → Int32} {ways_queue : Nat → Int32} {ways_heap : Nat → Int32} {ways_heapSize : Int32} {ways_found : Nat → Int32} {ways_improved : Nat → Int32} {pairing_costs : Nat → Int32} {pairing_best : Nat → Int32} {reader_kinds : Nat → Int32} {reader_starts : Nat → Int32} {reader_count : Int32} {commandText_signs : Nat → Int32} {commandText_length : Int32} {line_signs : Nat → Int32} {line_length : Int32} {spareMoves : Nat → Int32} {snapshotTaken : Int32} {lastErrorPosition : Int32} {lastFailedCommand : Int32} {x1 : Int32} {X : Nat × Int32 × (Nat → Int32) × (Nat → Int32)} (hf : f_X12_partnerOf K marsh_landings_cells marsh_landings_count pairing_costs pairing_best x1 = some X) (hp_this : At12 G w b marsh_reeds_states marsh_reeds_count marsh_reeds_broken marsh_fleet_numbers marsh_fleet_cells marsh_fleet_fares marsh_fleet_count marsh_fleet_nextNumber marsh_fleet_total marsh_fleet_removedFares marsh_fleet_meetings marsh_plans_moves marsh_plans_lengths marsh_landings_cells marsh_landings_count marsh_fogSide snapshot_reeds_states snapshot_reeds_count snapshot_reeds_broken snapshot_fleet_numbers snapshot_fleet_cells snapshot_fleet_fares snapshot_fleet_count snapshot_fleet_nextNumber snapshot_fleet_total snapshot_fleet_removedFares snapshot_fleet_meetings snapshot_plans_moves snapshot_plans_lengths snapshot_landings_cells snapshot_landings_count snapshot_fogSide history_slots history_free history_count ways_tolls ways_queue ways_heap ways_heapSize ways_found ways_improved pairing_costs pairing_best reader_kinds reader_starts reader_count commandText_signs commandText_length line_signs line_length spareMoves snapshotTaken lastErrorPosition lastFailedCommand) : vx_Met l yX12_partnerOf (Cond.code yX12_partnerOf cX12_partnerOf 2 (some .int) :: gAll) ({ frames := 8, cells := 1, slots := 6, locals := 140 }) (va_Pc [.ref b, .int x1] (mm_Pre G w sz)) (mm_Qi G w sz (fun r w' => X.1 = 0 ∧ r = X.2.1 ∧ At12 G w' b marsh_reeds_states marsh_reeds_count marsh_reeds_broken marsh_fleet_numbers marsh_fleet_cells marsh_fleet_fares marsh_fleet_count marsh_fleet_nextNumber marsh_fleet_total marsh_fleet_removedFares marsh_fleet_meetings marsh_plans_moves marsh_plans_lengths marsh_landings_cells marsh_landings_count marsh_fogSide snapshot_reeds_states snapshot_reeds_count snapshot_reeds_broken snapshot_fleet_numbers snapshot_fleet_cells snapshot_fleet_fares snapshot_fleet_count snapshot_fleet_nextNumber snapshot_fleet_total snapshot_fleet_removedFares snapshot_fleet_meetings snapshot_plans_moves snapshot_plans_lengths snapshot_landings_cells snapshot_landings_count snapshot_fogSide history_slots history_free history_count ways_tolls ways_queue ways_heap ways_heapSize ways_found ways_improved X.2.2.1 X.2.2.2 reader_kinds reader_starts reader_count commandText_signs commandText_length line_signs line_length spareMoves snapshotTaken lastErrorPosition lastFailedCommand ∧ mm_fr w w' b (b + 152))) (mm_QX G w sz (fun E w' => X.1 ≠ 0 ∧ E = mm_ex X.1 ∧ At12 G w' b marsh_reeds_states marsh_reeds_count marsh_reeds_broken marsh_fleet_numbers marsh_fleet_cells marsh_fleet_fares marsh_fleet_count marsh_fleet_nextNumber marsh_fleet_total marsh_fleet_removedFares marsh_fleet_meetings marsh_plans_moves marsh_plans_lengths marsh_landings_cells marsh_landings_count marsh_fogSide snapshot_reeds_states snapshot_reeds_count snapshot_reeds_broken snapshot_fleet_numbers snapshot_fleet_cells snapshot_fleet_fares snapshot_fleet_count snapshot_fleet_nextNumber snapshot_fleet_total snapshot_fleet_removedFares snapshot_fleet_meetings snapshot_plans_moves snapshot_plans_lengths snapshot_landings_cells snapshot_landings_count snapshot_fogSide history_slots history_free history_count ways_tolls ways_queue ways_heap ways_heapSize ways_found ways_improved X.2.2.1 X.2.2.2 reader_kinds reader_starts reader_count commandText_signs commandText_length line_signs line_length spareMoves snapshotTaken lastErrorPosition lastFailedCommand ∧ mm_fr w w' b (b + 152))) 1 6 (va_A w sz) := by
  refine mm_xheadI hfl [.ref b, .int x1] (by decide +kernel) rfl (Nat.le_of_ble_eq_true rfl) rfl rfl ?_
  intro p e s m args below meth c A Q hsz hC hM hret hprop hthrow ls hl
  have hx := hC.1.1
  have hb := hC.1.2.1
  have hl : lv_has ls 2 [(0, .ref b), (1, .int x1)] := hl
  have hF : mm_fr w w b (b + 152) := mm_fr.rf
  rw [f_X12_partnerOf] at hf
  obtain ⟨hc_this, hp_this_marsh, hp_this_snapshot, hp_this_history, hp_this_ways, hp_this_pairing, hp_this_reader, hp_this_commandText, hp_this_line, hp_this_spareMoves⟩ := hp_this
  refine lv_iload_n hx hb dX12_partnerOf_0 rfl (lv_at hl 1 rfl) ?_
  refine lv_if_lt (tgt := 18) hx hb dX12_partnerOf_1 (by decide) (fun hcd => ?_) (fun hcd => ?_)
  · rw [if_pos hcd] at hf
    cases hf
    exact hthrow (names := ["java/lang/RuntimeException", "java/lang/Exception"]) hM hl.1 (by decide +kernel) (by decide +kernel) q3_202 q1_16 vxa_1 vxb_1 dX12_partnerOf_18 dX12_partnerOf_21 dX12_partnerOf_22 dX12_partnerOf_25 (by decide) (Nat.le_of_ble_eq_true rfl) (Nat.le_of_ble_eq_true rfl) (Nat.le_of_ble_eq_true rfl) ⟨(by simp), rfl, ⟨hc_this, hp_this_marsh, hp_this_snapshot, hp_this_history, hp_this_ways, hp_this_pairing, hp_this_reader, hp_this_commandText, hp_this_line, hp_this_spareMoves⟩, hF⟩
  · rw [if_neg hcd] at hf
    refine lv_iload_n hx hb dX12_partnerOf_4 rfl (lv_at hl 1 rfl) ?_
    refine lv_aload_n hx hb dX12_partnerOf_5 rfl (lv_at hl 0 rfl) ?_
    refine mm_get hC hM (k := 0) hc_this rfl inAX12 (by decide) q2_16 rfl dX12_partnerOf_6 ?_
    refine mm_get hC hM (k := 3) hp_this_marsh.1 rfl inAX6 (by decide) q1_146 rfl dX12_partnerOf_9 ?_
    refine mm_get hC hM (k := 1) (hp_this_marsh.2.2.2.2).1 rfl inAX5 (by decide) q1_132 rfl dX12_partnerOf_12 ?_
    refine lv_icmp_lt (tgt := 26) hx hb dX12_partnerOf_15 (by decide) (fun hcd => ?_) (fun hcd => ?_)
    · rw [if_pos hcd] at hf
      refine lv_aload_n hx hb dX12_partnerOf_26 rfl (lv_at hl 0 rfl) ?_
      obtain ⟨q27, hq27, hf⟩ := mm_bd hf
      refine mm_xVv (rest := []) hC hM (c_X12_requireEvenLandings l hfl hq27 ⟨hc_this, hp_this_marsh, hp_this_snapshot, hp_this_history, hp_this_ways, hp_this_pairing, hp_this_reader, hp_this_commandText, hp_this_line, hp_this_spareMoves⟩) q5_211 q1_1 ykX12_requireEvenLandings q5_208 q5_210 qp_4bd74ff9 hc_this rfl ⟨rfl, rfl⟩ ⟨Nat.le_of_ble_eq_true rfl, Nat.le_of_ble_eq_true rfl⟩ rfl hl.1 rfl (Nat.le_of_ble_eq_true rfl) dX12_partnerOf_27 ⟨Nat.le_of_ble_eq_true rfl, Nat.le_of_ble_eq_true rfl⟩ (fun E ce qE w27 H locs hM hw hqE hv9 hcl9 => ?_) (fun w27 H locs hM hw => ?_)
      · obtain ⟨hne, hE, hw⟩ := hw
        rw [if_neg hne] at hf
        rw [hw] at hM
        cases hf
        exact hprop hM hqE hv9 hcl9 ⟨hne, hE, ⟨hc_this, hp_this_marsh, hp_this_snapshot, hp_this_history, hp_this_ways, hp_this_pairing, hp_this_reader, hp_this_commandText, hp_this_line, hp_this_spareMoves⟩, hF⟩ (Nat.le_of_ble_eq_true rfl) (Nat.le_of_ble_eq_true rfl)
      obtain ⟨h0, hw⟩ := hw
      rw [if_pos h0] at hf
      rw [hw] at hM
      refine lv_aload_n hx hb dX12_partnerOf_30 rfl (lv_at hl 0 rfl) ?_
      refine mm_get hC hM (k := 4) hc_this rfl inAX12 (by decide) q2_20 rfl dX12_partnerOf_31 ?_
      refine lv_aload_n hx hb dX12_partnerOf_34 rfl (lv_at hl 0 rfl) ?_
      refine mm_get hC hM (k := 0) hc_this rfl inAX12 (by decide) q2_16 rfl dX12_partnerOf_35 ?_
      refine mm_get hC hM (k := 3) hp_this_marsh.1 rfl inAX6 (by decide) q1_146 rfl dX12_partnerOf_38 ?_
      refine lv_iload_n hx hb dX12_partnerOf_41 rfl (lv_at hl 1 rfl) ?_
      obtain ⟨q42, hq42, hf⟩ := mm_bd hf
      refine mm_Vi (rest := []) hC hM (c_X7_bestPartner l hq42 hp_this_pairing (hp_this_marsh.2.2.2.2) (by omega)) q5_229 q1_9 ykX7_bestPartner q5_226 q5_227 q5_228 hp_this_pairing.1 rfl ⟨rfl, rfl⟩ ⟨Nat.le_of_ble_eq_true rfl, Nat.le_of_ble_eq_true rfl⟩ rfl hl.1 rfl (Nat.le_of_ble_eq_true rfl) dX12_partnerOf_42 ⟨Nat.le_of_ble_eq_true rfl, Nat.le_of_ble_eq_true rfl⟩ (fun r w42 H locs hM hw => ?_)
      obtain ⟨hr, hn_this, hfr⟩ := hw
      rw [hr]
      have hc_this := hfr.keep hc_this (by omega)
      have hp_this_spareMoves := hfr.keep hp_this_spareMoves (by omega)
      have hp_this_marsh := hp_this_marsh.keep hfr (by omega)
      have hp_this_snapshot := hp_this_snapshot.keep hfr (by omega)
      have hp_this_history := hp_this_history.keep hfr (by omega)
      have hp_this_ways := hp_this_ways.keep hfr (by omega)
      have hp_this_reader := hp_this_reader.keep hfr (by omega)
      have hp_this_commandText := hp_this_commandText.keep hfr (by omega)
      have hp_this_line := hp_this_line.keep hfr (by omega)
      have hp_this_pairing := hn_this
      have hF := hF.tr (hfr.wide (by omega) (by omega))
      cases hf
      exact hret hM dX12_partnerOf_45 rfl ⟨rfl, rfl, ⟨hc_this, hp_this_marsh, hp_this_snapshot, hp_this_history, hp_this_ways, hp_this_pairing, hp_this_reader, hp_this_commandText, hp_this_line, hp_this_spareMoves⟩, hF⟩ (Nat.le_of_ble_eq_true rfl) (Nat.le_of_ble_eq_true rfl)
    · rw [if_neg hcd] at hf
      cases hf
      exact hthrow (names := ["java/lang/RuntimeException", "java/lang/Exception"]) hM hl.1 (by decide +kernel) (by decide +kernel) q3_202 q1_16 vxa_1 vxb_1 dX12_partnerOf_18 dX12_partnerOf_21 dX12_partnerOf_22 dX12_partnerOf_25 (by decide) (Nat.le_of_ble_eq_true rfl) (Nat.le_of_ble_eq_true rfl) (Nat.le_of_ble_eq_true rfl) ⟨(by simp), rfl, ⟨hc_this, hp_this_marsh, hp_this_snapshot, hp_this_history, hp_this_ways, hp_this_pairing, hp_this_reader, hp_this_commandText, hp_this_line, hp_this_spareMoves⟩, hF⟩
def f_X12_fareTotal (marsh_fleet_total : Int32) : Option (Int32) := some marsh_fleet_total
set_option maxHeartbeats 4000000 in
set_option maxRecDepth 100000 in
theorem c_X12_fareTotal (l : Launch) {G : mm_G} {w : va_W} {sz : Nat} {b : Nat} {marsh_reeds_states : Nat → Int32} {marsh_reeds_count : Int32} {marsh_reeds_broken : Int32} {marsh_fleet_numbers : Nat → Int32} {marsh_fleet_cells : Nat → Int32} {marsh_fleet_fares : Nat → Int32} {marsh_fleet_count : Int32} {marsh_fleet_nextNumber : Int32} {marsh_fleet_total : Int32} {marsh_fleet_removedFares : Int32} {marsh_fleet_meetings : Int32} {marsh_plans_moves : Nat → Int32} {marsh_plans_lengths : Nat → Int32} {marsh_landings_cells : Nat → Int32} {marsh_landings_count : Int32} {marsh_fogSide : Int32} {snapshot_reeds_states : Nat → Int32} {snapshot_reeds_count : Int32} {snapshot_reeds_broken : Int32} {snapshot_fleet_numbers : Nat → Int32} {snapshot_fleet_cells : Nat → Int32} {snapshot_fleet_fares : Nat → Int32} {snapshot_fleet_count : Int32} {snapshot_fleet_nextNumber : Int32} {snapshot_fleet_total : Int32} {snapshot_fleet_removedFares : Int32} {snapshot_fleet_meetings : Int32} {snapshot_plans_moves : Nat → Int32} {snapshot_plans_lengths : Nat → Int32} {snapshot_landings_cells : Nat → Int32} {snapshot_landings_count : Int32} {snapshot_fogSide : Int32} {history_slots : Nat → mm_MV} {history_free : Int32} {history_count : Int32} {ways_tolls : Nat → Int32} {ways_queue : Nat → Int32} {ways_heap : Nat → Int32} {ways_heapSize : Int32} {ways_found : Nat → Int32} {ways_improved : Nat → Int32} {pairing_costs : Nat → Int32} {pairing_best : Nat → Int32} {reader_kinds : Nat → Int32} {reader_starts : Nat → Int32} {reader_count : Int32} {commandText_signs : Nat → Int32} {commandText_length : Int32} {line_signs : Nat → Int32} {line_length : Int32} {spareMoves : Nat → Int32} {snapshotTaken : Int32} {lastErrorPosition : Int32} {lastFailedCommand : Int32} {X : Int32} (hf : f_X12_fareTotal marsh_fleet_total = some X) (hp_this : At12 G w b marsh_reeds_states marsh_reeds_count marsh_reeds_broken marsh_fleet_numbers marsh_fleet_cells marsh_fleet_fares marsh_fleet_count marsh_fleet_nextNumber marsh_fleet_total marsh_fleet_removedFares marsh_fleet_meetings marsh_plans_moves marsh_plans_lengths marsh_landings_cells marsh_landings_count marsh_fogSide snapshot_reeds_states snapshot_reeds_count snapshot_reeds_broken snapshot_fleet_numbers snapshot_fleet_cells snapshot_fleet_fares snapshot_fleet_count snapshot_fleet_nextNumber snapshot_fleet_total snapshot_fleet_removedFares snapshot_fleet_meetings snapshot_plans_moves snapshot_plans_lengths snapshot_landings_cells snapshot_landings_count snapshot_fogSide history_slots history_free history_count ways_tolls ways_queue ways_heap ways_heapSize ways_found ways_improved pairing_costs pairing_best reader_kinds reader_starts reader_count commandText_signs commandText_length line_signs line_length spareMoves snapshotTaken lastErrorPosition lastFailedCommand) : Met l yX12_fareTotal (Cond.code yX12_fareTotal cX12_fareTotal 1 (some .int) :: gAll) ({ frames := 0, cells := 0, slots := 0, locals := 0 }) (va_Pc [.ref b] (mm_Pre G w sz)) (mm_Qi G w sz (fun r w' => r = X ∧ w' = w)) 0 0 (va_A w sz) := by
  refine mm_headI [.ref b] (by decide +kernel) rfl (Nat.le_of_ble_eq_true rfl) ?_
  intro p e s m args below meth c A Q hsz hC hM hret ls hl
  have hx := hC.1.1
  have hb := hC.1.2.1
  have hl : lv_has ls 1 [(0, .ref b)] := hl
  rw [f_X12_fareTotal] at hf
  refine lv_aload_n hx hb dX12_fareTotal_0 rfl (lv_at hl 0 rfl) ?_
  refine mm_get hC hM (k := 0) hp_this.1 rfl inAX12 (by decide) q2_16 rfl dX12_fareTotal_1 ?_
  refine mm_get hC hM (k := 1) (hp_this.2.1).1 rfl inAX6 (by decide) q1_142 rfl dX12_fareTotal_4 ?_
  refine mm_get hC hM (k := 5) ((hp_this.2.1).2.2.1).1 rfl inAX3 (by decide) q1_86 rfl dX12_fareTotal_7 ?_
  cases hf
  exact hret hM dX12_fareTotal_10 rfl ⟨rfl, rfl⟩
def f_X12_fareTotalByBoats (K : Nat) (marsh_fleet_fares : Nat → Int32) (marsh_fleet_count : Int32) (marsh_fleet_removedFares : Int32) : Option (Int32) := (f_X3_presentFares K marsh_fleet_fares marsh_fleet_count).bind fun q7 => some (q7 + marsh_fleet_removedFares)
set_option maxHeartbeats 4000000 in
set_option maxRecDepth 100000 in
theorem c_X12_fareTotalByBoats (l : Launch) {G : mm_G} {K : Nat} {w : va_W} {sz : Nat} {b : Nat} {marsh_reeds_states : Nat → Int32} {marsh_reeds_count : Int32} {marsh_reeds_broken : Int32} {marsh_fleet_numbers : Nat → Int32} {marsh_fleet_cells : Nat → Int32} {marsh_fleet_fares : Nat → Int32} {marsh_fleet_count : Int32} {marsh_fleet_nextNumber : Int32} {marsh_fleet_total : Int32} {marsh_fleet_removedFares : Int32} {marsh_fleet_meetings : Int32} {marsh_plans_moves : Nat → Int32} {marsh_plans_lengths : Nat → Int32} {marsh_landings_cells : Nat → Int32} {marsh_landings_count : Int32} {marsh_fogSide : Int32} {snapshot_reeds_states : Nat → Int32} {snapshot_reeds_count : Int32} {snapshot_reeds_broken : Int32} {snapshot_fleet_numbers : Nat → Int32} {snapshot_fleet_cells : Nat → Int32} {snapshot_fleet_fares : Nat → Int32} {snapshot_fleet_count : Int32} {snapshot_fleet_nextNumber : Int32} {snapshot_fleet_total : Int32} {snapshot_fleet_removedFares : Int32} {snapshot_fleet_meetings : Int32} {snapshot_plans_moves : Nat → Int32} {snapshot_plans_lengths : Nat → Int32} {snapshot_landings_cells : Nat → Int32} {snapshot_landings_count : Int32} {snapshot_fogSide : Int32} {history_slots : Nat → mm_MV} {history_free : Int32} {history_count : Int32} {ways_tolls : Nat → Int32} {ways_queue : Nat → Int32} {ways_heap : Nat → Int32} {ways_heapSize : Int32} {ways_found : Nat → Int32} {ways_improved : Nat → Int32} {pairing_costs : Nat → Int32} {pairing_best : Nat → Int32} {reader_kinds : Nat → Int32} {reader_starts : Nat → Int32} {reader_count : Int32} {commandText_signs : Nat → Int32} {commandText_length : Int32} {line_signs : Nat → Int32} {line_length : Int32} {spareMoves : Nat → Int32} {snapshotTaken : Int32} {lastErrorPosition : Int32} {lastFailedCommand : Int32} {X : Int32} (hf : f_X12_fareTotalByBoats K marsh_fleet_fares marsh_fleet_count marsh_fleet_removedFares = some X) (hp_this : At12 G w b marsh_reeds_states marsh_reeds_count marsh_reeds_broken marsh_fleet_numbers marsh_fleet_cells marsh_fleet_fares marsh_fleet_count marsh_fleet_nextNumber marsh_fleet_total marsh_fleet_removedFares marsh_fleet_meetings marsh_plans_moves marsh_plans_lengths marsh_landings_cells marsh_landings_count marsh_fogSide snapshot_reeds_states snapshot_reeds_count snapshot_reeds_broken snapshot_fleet_numbers snapshot_fleet_cells snapshot_fleet_fares snapshot_fleet_count snapshot_fleet_nextNumber snapshot_fleet_total snapshot_fleet_removedFares snapshot_fleet_meetings snapshot_plans_moves snapshot_plans_lengths snapshot_landings_cells snapshot_landings_count snapshot_fogSide history_slots history_free history_count ways_tolls ways_queue ways_heap ways_heapSize ways_found ways_improved pairing_costs pairing_best reader_kinds reader_starts reader_count commandText_signs commandText_length line_signs line_length spareMoves snapshotTaken lastErrorPosition lastFailedCommand) : Met l yX12_fareTotalByBoats (Cond.code yX12_fareTotalByBoats cX12_fareTotalByBoats 1 (some .int) :: gAll) ({ frames := 1, cells := 0, slots := 0, locals := 22 }) (va_Pc [.ref b] (mm_Pre G w sz)) (mm_Qi G w sz (fun r w' => r = X ∧ w' = w)) 0 0 (va_A w sz) := by
  refine mm_headI [.ref b] (by decide +kernel) rfl (Nat.le_of_ble_eq_true rfl) ?_
  intro p e s m args below meth c A Q hsz hC hM hret ls hl
  have hx := hC.1.1
  have hb := hC.1.2.1
  have hl : lv_has ls 1 [(0, .ref b)] := hl
  rw [f_X12_fareTotalByBoats] at hf
  refine lv_aload_n hx hb dX12_fareTotalByBoats_0 rfl (lv_at hl 0 rfl) ?_
  refine mm_get hC hM (k := 0) hp_this.1 rfl inAX12 (by decide) q2_16 rfl dX12_fareTotalByBoats_1 ?_
  refine mm_get hC hM (k := 1) (hp_this.2.1).1 rfl inAX6 (by decide) q1_142 rfl dX12_fareTotalByBoats_4 ?_
  obtain ⟨q7, hq7, hf⟩ := mm_bd hf
  refine mm_Vi (rest := []) hC hM (c_X3_presentFares l hq7 ((hp_this.2.1).2.2.1)) q2_113 q1_4 ykX3_presentFares q2_110 q2_111 q2_112 ((hp_this.2.1).2.2.1).1 rfl ⟨rfl, rfl⟩ ⟨Nat.le_of_ble_eq_true rfl, Nat.le_of_ble_eq_true rfl⟩ rfl hl.1 rfl (Nat.le_of_ble_eq_true rfl) dX12_fareTotalByBoats_7 ⟨Nat.le_of_ble_eq_true rfl, Nat.le_of_ble_eq_true rfl⟩ (fun r w7 H locs hM hw => ?_)
  obtain ⟨hr, hw⟩ := hw
  rw [hr]
  rw [hw] at hM
  refine lv_aload_n hx hb dX12_fareTotalByBoats_10 rfl (lv_at hl 0 rfl) ?_
  refine mm_get hC hM (k := 0) hp_this.1 rfl inAX12 (by decide) q2_16 rfl dX12_fareTotalByBoats_11 ?_
  refine mm_get hC hM (k := 1) (hp_this.2.1).1 rfl inAX6 (by decide) q1_142 rfl dX12_fareTotalByBoats_14 ?_
  refine mm_get hC hM (k := 6) ((hp_this.2.1).2.2.1).1 rfl inAX3 (by decide) q1_88 rfl dX12_fareTotalByBoats_17 ?_
  refine lv_iadd hx hb dX12_fareTotalByBoats_20 ?_
  cases hf
  exact hret hM dX12_fareTotalByBoats_21 rfl ⟨rfl, rfl⟩
def f_X12_meetingCount (marsh_fleet_meetings : Int32) : Option (Int32) := some marsh_fleet_meetings
set_option maxHeartbeats 4000000 in
set_option maxRecDepth 100000 in
theorem c_X12_meetingCount (l : Launch) {G : mm_G} {w : va_W} {sz : Nat} {b : Nat} {marsh_reeds_states : Nat → Int32} {marsh_reeds_count : Int32} {marsh_reeds_broken : Int32} {marsh_fleet_numbers : Nat → Int32} {marsh_fleet_cells : Nat → Int32} {marsh_fleet_fares : Nat → Int32} {marsh_fleet_count : Int32} {marsh_fleet_nextNumber : Int32} {marsh_fleet_total : Int32} {marsh_fleet_removedFares : Int32} {marsh_fleet_meetings : Int32} {marsh_plans_moves : Nat → Int32} {marsh_plans_lengths : Nat → Int32} {marsh_landings_cells : Nat → Int32} {marsh_landings_count : Int32} {marsh_fogSide : Int32} {snapshot_reeds_states : Nat → Int32} {snapshot_reeds_count : Int32} {snapshot_reeds_broken : Int32} {snapshot_fleet_numbers : Nat → Int32} {snapshot_fleet_cells : Nat → Int32} {snapshot_fleet_fares : Nat → Int32} {snapshot_fleet_count : Int32} {snapshot_fleet_nextNumber : Int32} {snapshot_fleet_total : Int32} {snapshot_fleet_removedFares : Int32} {snapshot_fleet_meetings : Int32} {snapshot_plans_moves : Nat → Int32} {snapshot_plans_lengths : Nat → Int32} {snapshot_landings_cells : Nat → Int32} {snapshot_landings_count : Int32} {snapshot_fogSide : Int32} {history_slots : Nat → mm_MV} {history_free : Int32} {history_count : Int32} {ways_tolls : Nat → Int32} {ways_queue : Nat → Int32} {ways_heap : Nat → Int32} {ways_heapSize : Int32} {ways_found : Nat → Int32} {ways_improved : Nat → Int32} {pairing_costs : Nat → Int32} {pairing_best : Nat → Int32} {reader_kinds : Nat → Int32} {reader_starts : Nat → Int32} {reader_count : Int32} {commandText_signs : Nat → Int32} {commandText_length : Int32} {line_signs : Nat → Int32} {line_length : Int32} {spareMoves : Nat → Int32} {snapshotTaken : Int32} {lastErrorPosition : Int32} {lastFailedCommand : Int32} {X : Int32} (hf : f_X12_meetingCount marsh_fleet_meetings = some X) (hp_this : At12 G w b marsh_reeds_states marsh_reeds_count marsh_reeds_broken marsh_fleet_numbers marsh_fleet_cells marsh_fleet_fares marsh_fleet_count marsh_fleet_nextNumber marsh_fleet_total marsh_fleet_removedFares marsh_fleet_meetings marsh_plans_moves marsh_plans_lengths marsh_landings_cells marsh_landings_count marsh_fogSide snapshot_reeds_states snapshot_reeds_count snapshot_reeds_broken snapshot_fleet_numbers snapshot_fleet_cells snapshot_fleet_fares snapshot_fleet_count snapshot_fleet_nextNumber snapshot_fleet_total snapshot_fleet_removedFares snapshot_fleet_meetings snapshot_plans_moves snapshot_plans_lengths snapshot_landings_cells snapshot_landings_count snapshot_fogSide history_slots history_free history_count ways_tolls ways_queue ways_heap ways_heapSize ways_found ways_improved pairing_costs pairing_best reader_kinds reader_starts reader_count commandText_signs commandText_length line_signs line_length spareMoves snapshotTaken lastErrorPosition lastFailedCommand) : Met l yX12_meetingCount (Cond.code yX12_meetingCount cX12_meetingCount 1 (some .int) :: gAll) ({ frames := 0, cells := 0, slots := 0, locals := 0 }) (va_Pc [.ref b] (mm_Pre G w sz)) (mm_Qi G w sz (fun r w' => r = X ∧ w' = w)) 0 0 (va_A w sz) := by
  refine mm_headI [.ref b] (by decide +kernel) rfl (Nat.le_of_ble_eq_true rfl) ?_
  intro p e s m args below meth c A Q hsz hC hM hret ls hl
  have hx := hC.1.1
  have hb := hC.1.2.1
  have hl : lv_has ls 1 [(0, .ref b)] := hl
  rw [f_X12_meetingCount] at hf
  refine lv_aload_n hx hb dX12_meetingCount_0 rfl (lv_at hl 0 rfl) ?_
  refine mm_get hC hM (k := 0) hp_this.1 rfl inAX12 (by decide) q2_16 rfl dX12_meetingCount_1 ?_
  refine mm_get hC hM (k := 1) (hp_this.2.1).1 rfl inAX6 (by decide) q1_142 rfl dX12_meetingCount_4 ?_
  refine mm_get hC hM (k := 7) ((hp_this.2.1).2.2.1).1 rfl inAX3 (by decide) q1_90 rfl dX12_meetingCount_7 ?_
  cases hf
  exact hret hM dX12_meetingCount_10 rfl ⟨rfl, rfl⟩
def f_X12_append (commandText_signs : Nat → Int32) (commandText_length : Int32) (x1 : Int32) : Option (Nat × Int32 × (Nat → Int32) × Int32) := if x1 < 32 then some (4, 0, commandText_signs, commandText_length) else if x1 ≤ 126 then if commandText_length < 60 then (f_X10_put commandText_signs commandText_length x1).bind fun q45 => some (0, q45.1, q45.2.1, q45.2.2) else some (3, 0, commandText_signs, commandText_length) else some (4, 0, commandText_signs, commandText_length)
set_option maxHeartbeats 4000000 in
set_option maxRecDepth 100000 in
theorem c_X12_append (l : Launch) (hfl : l.stackTraces = false) {G : mm_G} {w : va_W} {sz : Nat} {b : Nat} {marsh_reeds_states : Nat → Int32} {marsh_reeds_count : Int32} {marsh_reeds_broken : Int32} {marsh_fleet_numbers : Nat → Int32} {marsh_fleet_cells : Nat → Int32} {marsh_fleet_fares : Nat → Int32} {marsh_fleet_count : Int32} {marsh_fleet_nextNumber : Int32} {marsh_fleet_total : Int32} {marsh_fleet_removedFares : Int32} {marsh_fleet_meetings : Int32} {marsh_plans_moves : Nat → Int32} {marsh_plans_lengths : Nat → Int32} {marsh_landings_cells : Nat → Int32} {marsh_landings_count : Int32} {marsh_fogSide : Int32} {snapshot_reeds_states : Nat → Int32} {snapshot_reeds_count : Int32} {snapshot_reeds_broken : Int32} {snapshot_fleet_numbers : Nat → Int32} {snapshot_fleet_cells : Nat → Int32} {snapshot_fleet_fares : Nat → Int32} {snapshot_fleet_count : Int32} {snapshot_fleet_nextNumber : Int32} {snapshot_fleet_total : Int32} {snapshot_fleet_removedFares : Int32} {snapshot_fleet_meetings : Int32} {snapshot_plans_moves : Nat → Int32} {snapshot_plans_lengths : Nat → Int32} {snapshot_landings_cells : Nat → Int32} {snapshot_landings_count : Int32} {snapshot_fogSide : Int32} {history_slots : Nat → mm_MV} {history_free : Int32} {history_count : Int32} {ways_tolls : Nat → Int32} {ways_queue : Nat → Int32} {ways_heap : Nat → Int32} {ways_heapSize : Int32} {ways_found : Nat → Int32} {ways_improved : Nat → Int32} {pairing_costs : Nat → Int32} {pairing_best : Nat → Int32} {reader_kinds : Nat → Int32} {reader_starts : Nat → Int32} {reader_count : Int32} {commandText_signs : Nat → Int32} {commandText_length : Int32} {line_signs : Nat → Int32} {line_length : Int32} {spareMoves : Nat → Int32} {snapshotTaken : Int32} {lastErrorPosition : Int32} {lastFailedCommand : Int32} {x1 : Int32} {X : Nat × Int32 × (Nat → Int32) × Int32} (hf : f_X12_append commandText_signs commandText_length x1 = some X) (hp_this : At12 G w b marsh_reeds_states marsh_reeds_count marsh_reeds_broken marsh_fleet_numbers marsh_fleet_cells marsh_fleet_fares marsh_fleet_count marsh_fleet_nextNumber marsh_fleet_total marsh_fleet_removedFares marsh_fleet_meetings marsh_plans_moves marsh_plans_lengths marsh_landings_cells marsh_landings_count marsh_fogSide snapshot_reeds_states snapshot_reeds_count snapshot_reeds_broken snapshot_fleet_numbers snapshot_fleet_cells snapshot_fleet_fares snapshot_fleet_count snapshot_fleet_nextNumber snapshot_fleet_total snapshot_fleet_removedFares snapshot_fleet_meetings snapshot_plans_moves snapshot_plans_lengths snapshot_landings_cells snapshot_landings_count snapshot_fogSide history_slots history_free history_count ways_tolls ways_queue ways_heap ways_heapSize ways_found ways_improved pairing_costs pairing_best reader_kinds reader_starts reader_count commandText_signs commandText_length line_signs line_length spareMoves snapshotTaken lastErrorPosition lastFailedCommand) : vx_Met l yX12_append (Cond.code yX12_append cX12_append 2 (some .int) :: gAll) ({ frames := 7, cells := 1, slots := 6, locals := 120 }) (va_Pc [.ref b, .int x1] (mm_Pre G w sz)) (mm_Qi G w sz (fun r w' => X.1 = 0 ∧ r = X.2.1 ∧ At12 G w' b marsh_reeds_states marsh_reeds_count marsh_reeds_broken marsh_fleet_numbers marsh_fleet_cells marsh_fleet_fares marsh_fleet_count marsh_fleet_nextNumber marsh_fleet_total marsh_fleet_removedFares marsh_fleet_meetings marsh_plans_moves marsh_plans_lengths marsh_landings_cells marsh_landings_count marsh_fogSide snapshot_reeds_states snapshot_reeds_count snapshot_reeds_broken snapshot_fleet_numbers snapshot_fleet_cells snapshot_fleet_fares snapshot_fleet_count snapshot_fleet_nextNumber snapshot_fleet_total snapshot_fleet_removedFares snapshot_fleet_meetings snapshot_plans_moves snapshot_plans_lengths snapshot_landings_cells snapshot_landings_count snapshot_fogSide history_slots history_free history_count ways_tolls ways_queue ways_heap ways_heapSize ways_found ways_improved pairing_costs pairing_best reader_kinds reader_starts reader_count X.2.2.1 X.2.2.2 line_signs line_length spareMoves snapshotTaken lastErrorPosition lastFailedCommand ∧ mm_fr w w' b (b + 152))) (mm_QX G w sz (fun E w' => X.1 ≠ 0 ∧ E = mm_ex X.1 ∧ At12 G w' b marsh_reeds_states marsh_reeds_count marsh_reeds_broken marsh_fleet_numbers marsh_fleet_cells marsh_fleet_fares marsh_fleet_count marsh_fleet_nextNumber marsh_fleet_total marsh_fleet_removedFares marsh_fleet_meetings marsh_plans_moves marsh_plans_lengths marsh_landings_cells marsh_landings_count marsh_fogSide snapshot_reeds_states snapshot_reeds_count snapshot_reeds_broken snapshot_fleet_numbers snapshot_fleet_cells snapshot_fleet_fares snapshot_fleet_count snapshot_fleet_nextNumber snapshot_fleet_total snapshot_fleet_removedFares snapshot_fleet_meetings snapshot_plans_moves snapshot_plans_lengths snapshot_landings_cells snapshot_landings_count snapshot_fogSide history_slots history_free history_count ways_tolls ways_queue ways_heap ways_heapSize ways_found ways_improved pairing_costs pairing_best reader_kinds reader_starts reader_count X.2.2.1 X.2.2.2 line_signs line_length spareMoves snapshotTaken lastErrorPosition lastFailedCommand ∧ mm_fr w w' b (b + 152))) 1 6 (va_A w sz) := by
  refine mm_xheadI hfl [.ref b, .int x1] (by decide +kernel) rfl (Nat.le_of_ble_eq_true rfl) rfl rfl ?_
  intro p e s m args below meth c A Q hsz hC hM hret hprop hthrow ls hl
  have hx := hC.1.1
  have hb := hC.1.2.1
  have hl : lv_has ls 2 [(0, .ref b), (1, .int x1)] := hl
  have hF : mm_fr w w b (b + 152) := mm_fr.rf
  rw [f_X12_append] at hf
  obtain ⟨hc_this, hp_this_marsh, hp_this_snapshot, hp_this_history, hp_this_ways, hp_this_pairing, hp_this_reader, hp_this_commandText, hp_this_line, hp_this_spareMoves⟩ := hp_this
  refine lv_iload_n hx hb dX12_append_0 rfl (lv_at hl 1 rfl) ?_
  refine lv_bipush (v := 32) hx hb dX12_append_1 (by decide) ?_
  refine lv_icmp_lt (tgt := 12) hx hb dX12_append_3 (by decide) (fun hcd => ?_) (fun hcd => ?_)
  · rw [if_pos hcd] at hf
    cases hf
    exact hthrow (names := ["java/lang/RuntimeException", "java/lang/Exception"]) hM hl.1 (by decide +kernel) (by decide +kernel) q4_13 q1_22 vxa_4 vxb_4 dX12_append_12 dX12_append_15 dX12_append_16 dX12_append_19 (by decide) (Nat.le_of_ble_eq_true rfl) (Nat.le_of_ble_eq_true rfl) (Nat.le_of_ble_eq_true rfl) ⟨(by simp), rfl, ⟨hc_this, hp_this_marsh, hp_this_snapshot, hp_this_history, hp_this_ways, hp_this_pairing, hp_this_reader, hp_this_commandText, hp_this_line, hp_this_spareMoves⟩, hF⟩
  · rw [if_neg hcd] at hf
    refine lv_iload_n hx hb dX12_append_6 rfl (lv_at hl 1 rfl) ?_
    refine lv_bipush (v := 126) hx hb dX12_append_7 (by decide) ?_
    refine lv_icmp_le (tgt := 20) hx hb dX12_append_9 (by decide) (fun hcd => ?_) (fun hcd => ?_)
    · rw [if_pos hcd] at hf
      refine lv_aload_n hx hb dX12_append_20 rfl (lv_at hl 0 rfl) ?_
      refine mm_get hC hM (k := 6) hc_this rfl inAX12 (by decide) q2_22 rfl dX12_append_21 ?_
      refine mm_get hC hM (k := 1) hp_this_commandText.1 rfl inAX10 (by decide) q2_9 rfl dX12_append_24 ?_
      refine lv_bipush (v := 60) hx hb dX12_append_27 (by decide) ?_
      refine lv_icmp_lt (tgt := 40) hx hb dX12_append_29 (by decide) (fun hcd => ?_) (fun hcd => ?_)
      · rw [if_pos hcd] at hf
        refine lv_aload_n hx hb dX12_append_40 rfl (lv_at hl 0 rfl) ?_
        refine mm_get hC hM (k := 6) hc_this rfl inAX12 (by decide) q2_22 rfl dX12_append_41 ?_
        refine lv_iload_n hx hb dX12_append_44 rfl (lv_at hl 1 rfl) ?_
        obtain ⟨q45, hq45, hf⟩ := mm_bd hf
        refine mm_Vi (rest := []) hC hM (c_X10_put l hq45 hp_this_commandText) q6_4 q1_11 ykX10_put q6_1 q6_2 q6_3 hp_this_commandText.1 rfl ⟨rfl, rfl⟩ ⟨Nat.le_of_ble_eq_true rfl, Nat.le_of_ble_eq_true rfl⟩ rfl hl.1 rfl (Nat.le_of_ble_eq_true rfl) dX12_append_45 ⟨Nat.le_of_ble_eq_true rfl, Nat.le_of_ble_eq_true rfl⟩ (fun r w45 H locs hM hw => ?_)
        obtain ⟨hr, hn_this, hfr⟩ := hw
        rw [hr]
        have hc_this := hfr.keep hc_this (by omega)
        have hp_this_spareMoves := hfr.keep hp_this_spareMoves (by omega)
        have hp_this_marsh := hp_this_marsh.keep hfr (by omega)
        have hp_this_snapshot := hp_this_snapshot.keep hfr (by omega)
        have hp_this_history := hp_this_history.keep hfr (by omega)
        have hp_this_ways := hp_this_ways.keep hfr (by omega)
        have hp_this_pairing := hp_this_pairing.keep hfr (by omega)
        have hp_this_reader := hp_this_reader.keep hfr (by omega)
        have hp_this_line := hp_this_line.keep hfr (by omega)
        have hp_this_commandText := hn_this
        have hF := hF.tr (hfr.wide (by omega) (by omega))
        cases hf
        exact hret hM dX12_append_48 rfl ⟨rfl, rfl, ⟨hc_this, hp_this_marsh, hp_this_snapshot, hp_this_history, hp_this_ways, hp_this_pairing, hp_this_reader, hp_this_commandText, hp_this_line, hp_this_spareMoves⟩, hF⟩ (Nat.le_of_ble_eq_true rfl) (Nat.le_of_ble_eq_true rfl)
      · rw [if_neg hcd] at hf
        cases hf
        exact hthrow (names := ["java/lang/RuntimeException", "java/lang/Exception"]) hM hl.1 (by decide +kernel) (by decide +kernel) q3_238 q1_21 vxa_3 vxb_3 dX12_append_32 dX12_append_35 dX12_append_36 dX12_append_39 (by decide) (Nat.le_of_ble_eq_true rfl) (Nat.le_of_ble_eq_true rfl) (Nat.le_of_ble_eq_true rfl) ⟨(by simp), rfl, ⟨hc_this, hp_this_marsh, hp_this_snapshot, hp_this_history, hp_this_ways, hp_this_pairing, hp_this_reader, hp_this_commandText, hp_this_line, hp_this_spareMoves⟩, hF⟩
    · rw [if_neg hcd] at hf
      cases hf
      exact hthrow (names := ["java/lang/RuntimeException", "java/lang/Exception"]) hM hl.1 (by decide +kernel) (by decide +kernel) q4_13 q1_22 vxa_4 vxb_4 dX12_append_12 dX12_append_15 dX12_append_16 dX12_append_19 (by decide) (Nat.le_of_ble_eq_true rfl) (Nat.le_of_ble_eq_true rfl) (Nat.le_of_ble_eq_true rfl) ⟨(by simp), rfl, ⟨hc_this, hp_this_marsh, hp_this_snapshot, hp_this_history, hp_this_ways, hp_this_pairing, hp_this_reader, hp_this_commandText, hp_this_line, hp_this_spareMoves⟩, hF⟩
def f_X12_rewritePlan_L25 (K : Nat) (commandText_signs : Nat → Int32) (commandText_length : Int32) (x1 : Int32) (x4 : Int32) : Nat → (Int32) → (Int32) → (Nat → Int32) → (Nat → Int32) → Option (Int32 × (Nat → Int32) × (Nat → Int32))
  | 0, _, _, _, _ => none
  | n + 1, x3, x5, marsh_plans_moves, marsh_plans_lengths => if x4 ≤ x5 then some (x3, marsh_plans_moves, marsh_plans_lengths) else if x3 < 0 then some (x3, marsh_plans_moves, marsh_plans_lengths) else (f_X10_signAt commandText_signs commandText_length x5).bind fun q50 => (f_X8_extend K marsh_plans_moves marsh_plans_lengths x1 q50).bind fun q53 => f_X12_rewritePlan_L25 K commandText_signs commandText_length x1 x4 n q53.1 (x5 + 1) q53.2.1 q53.2.2
def f_X12_rewritePlan (K : Nat) (marsh_plans_moves : Nat → Int32) (marsh_plans_lengths : Nat → Int32) (commandText_signs : Nat → Int32) (commandText_length : Int32) (x1 : Int32) (x2 : Int32) : Option (Int32 × (Nat → Int32) × (Nat → Int32)) := (f_X8_empty marsh_plans_lengths x1).bind fun q8 => (f_X10_endOfMoves K commandText_signs commandText_length x2).bind fun q17 => (f_X12_rewritePlan_L25 K commandText_signs commandText_length x1 q17 K q8.1 x2 marsh_plans_moves q8.2).bind fun q25 => some (q25.1, q25.2.1, q25.2.2)
set_option maxHeartbeats 4000000 in
set_option maxRecDepth 100000 in
theorem c_X12_rewritePlan (l : Launch) {G : mm_G} {K : Nat} {w : va_W} {sz : Nat} {b : Nat} {marsh_reeds_states : Nat → Int32} {marsh_reeds_count : Int32} {marsh_reeds_broken : Int32} {marsh_fleet_numbers : Nat → Int32} {marsh_fleet_cells : Nat → Int32} {marsh_fleet_fares : Nat → Int32} {marsh_fleet_count : Int32} {marsh_fleet_nextNumber : Int32} {marsh_fleet_total : Int32} {marsh_fleet_removedFares : Int32} {marsh_fleet_meetings : Int32} {marsh_plans_moves : Nat → Int32} {marsh_plans_lengths : Nat → Int32} {marsh_landings_cells : Nat → Int32} {marsh_landings_count : Int32} {marsh_fogSide : Int32} {snapshot_reeds_states : Nat → Int32} {snapshot_reeds_count : Int32} {snapshot_reeds_broken : Int32} {snapshot_fleet_numbers : Nat → Int32} {snapshot_fleet_cells : Nat → Int32} {snapshot_fleet_fares : Nat → Int32} {snapshot_fleet_count : Int32} {snapshot_fleet_nextNumber : Int32} {snapshot_fleet_total : Int32} {snapshot_fleet_removedFares : Int32} {snapshot_fleet_meetings : Int32} {snapshot_plans_moves : Nat → Int32} {snapshot_plans_lengths : Nat → Int32} {snapshot_landings_cells : Nat → Int32} {snapshot_landings_count : Int32} {snapshot_fogSide : Int32} {history_slots : Nat → mm_MV} {history_free : Int32} {history_count : Int32} {ways_tolls : Nat → Int32} {ways_queue : Nat → Int32} {ways_heap : Nat → Int32} {ways_heapSize : Int32} {ways_found : Nat → Int32} {ways_improved : Nat → Int32} {pairing_costs : Nat → Int32} {pairing_best : Nat → Int32} {reader_kinds : Nat → Int32} {reader_starts : Nat → Int32} {reader_count : Int32} {commandText_signs : Nat → Int32} {commandText_length : Int32} {line_signs : Nat → Int32} {line_length : Int32} {spareMoves : Nat → Int32} {snapshotTaken : Int32} {lastErrorPosition : Int32} {lastFailedCommand : Int32} {x1 : Int32} {x2 : Int32} {X : Int32 × (Nat → Int32) × (Nat → Int32)} (hf : f_X12_rewritePlan K marsh_plans_moves marsh_plans_lengths commandText_signs commandText_length x1 x2 = some X) (hp_this : At12 G w b marsh_reeds_states marsh_reeds_count marsh_reeds_broken marsh_fleet_numbers marsh_fleet_cells marsh_fleet_fares marsh_fleet_count marsh_fleet_nextNumber marsh_fleet_total marsh_fleet_removedFares marsh_fleet_meetings marsh_plans_moves marsh_plans_lengths marsh_landings_cells marsh_landings_count marsh_fogSide snapshot_reeds_states snapshot_reeds_count snapshot_reeds_broken snapshot_fleet_numbers snapshot_fleet_cells snapshot_fleet_fares snapshot_fleet_count snapshot_fleet_nextNumber snapshot_fleet_total snapshot_fleet_removedFares snapshot_fleet_meetings snapshot_plans_moves snapshot_plans_lengths snapshot_landings_cells snapshot_landings_count snapshot_fogSide history_slots history_free history_count ways_tolls ways_queue ways_heap ways_heapSize ways_found ways_improved pairing_costs pairing_best reader_kinds reader_starts reader_count commandText_signs commandText_length line_signs line_length spareMoves snapshotTaken lastErrorPosition lastFailedCommand) : Met l yX12_rewritePlan (Cond.code yX12_rewritePlan cX12_rewritePlan 6 (some .int) :: gAll) ({ frames := 2, cells := 0, slots := 0, locals := 46 }) (va_Pc [.ref b, .int x1, .int x2] (mm_Pre G w sz)) (mm_Qi G w sz (fun r w' => r = X.1 ∧ At12 G w' b marsh_reeds_states marsh_reeds_count marsh_reeds_broken marsh_fleet_numbers marsh_fleet_cells marsh_fleet_fares marsh_fleet_count marsh_fleet_nextNumber marsh_fleet_total marsh_fleet_removedFares marsh_fleet_meetings X.2.1 X.2.2 marsh_landings_cells marsh_landings_count marsh_fogSide snapshot_reeds_states snapshot_reeds_count snapshot_reeds_broken snapshot_fleet_numbers snapshot_fleet_cells snapshot_fleet_fares snapshot_fleet_count snapshot_fleet_nextNumber snapshot_fleet_total snapshot_fleet_removedFares snapshot_fleet_meetings snapshot_plans_moves snapshot_plans_lengths snapshot_landings_cells snapshot_landings_count snapshot_fogSide history_slots history_free history_count ways_tolls ways_queue ways_heap ways_heapSize ways_found ways_improved pairing_costs pairing_best reader_kinds reader_starts reader_count commandText_signs commandText_length line_signs line_length spareMoves snapshotTaken lastErrorPosition lastFailedCommand ∧ mm_fr w w' b (b + 152))) 0 0 (va_A w sz) := by
  refine mm_headI [.ref b, .int x1, .int x2] (by decide +kernel) rfl (Nat.le_of_ble_eq_true rfl) ?_
  intro p e s m args below meth c A Q hsz hC hM hret ls hl
  have hx := hC.1.1
  have hb := hC.1.2.1
  have hl : lv_has ls 6 [(0, .ref b), (1, .int x1), (2, .int x2)] := hl
  have hF : mm_fr w w b (b + 152) := mm_fr.rf
  rw [f_X12_rewritePlan] at hf
  obtain ⟨hc_this, hp_this_marsh, hp_this_snapshot, hp_this_history, hp_this_ways, hp_this_pairing, hp_this_reader, hp_this_commandText, hp_this_line, hp_this_spareMoves⟩ := hp_this
  obtain ⟨hc_this_marsh, hp_this_marsh_reeds, hp_this_marsh_fleet, hp_this_marsh_plans, hp_this_marsh_landings⟩ := hp_this_marsh
  refine lv_aload_n hx hb dX12_rewritePlan_0 rfl (lv_at hl 0 rfl) ?_
  refine mm_get hC hM (k := 0) hc_this rfl inAX12 (by decide) q2_16 rfl dX12_rewritePlan_1 ?_
  refine mm_get hC hM (k := 2) hc_this_marsh rfl inAX6 (by decide) q1_144 rfl dX12_rewritePlan_4 ?_
  refine lv_iload_n hx hb dX12_rewritePlan_7 rfl (lv_at hl 1 rfl) ?_
  obtain ⟨q8, hq8, hf⟩ := mm_bd hf
  refine mm_Vi (rest := []) hC hM (c_X8_empty l hq8 hp_this_marsh_plans) q4_231 q1_5 ykX8_empty q4_228 q4_229 q4_230 hp_this_marsh_plans.1 rfl ⟨rfl, rfl⟩ ⟨Nat.le_of_ble_eq_true rfl, Nat.le_of_ble_eq_true rfl⟩ rfl hl.1 rfl (Nat.le_of_ble_eq_true rfl) dX12_rewritePlan_8 ⟨Nat.le_of_ble_eq_true rfl, Nat.le_of_ble_eq_true rfl⟩ (fun r w8 H locs hM hw => ?_)
  obtain ⟨hr, hn_this, hfr⟩ := hw
  rw [hr]
  have hc_this := hfr.keep hc_this (by omega)
  have hp_this_spareMoves := hfr.keep hp_this_spareMoves (by omega)
  have hc_this_marsh := hfr.keep hc_this_marsh (by omega)
  have hp_this_marsh_reeds := hp_this_marsh_reeds.keep hfr (by omega)
  have hp_this_marsh_fleet := hp_this_marsh_fleet.keep hfr (by omega)
  have hp_this_marsh_landings := hp_this_marsh_landings.keep hfr (by omega)
  have hp_this_snapshot := hp_this_snapshot.keep hfr (by omega)
  have hp_this_history := hp_this_history.keep hfr (by omega)
  have hp_this_ways := hp_this_ways.keep hfr (by omega)
  have hp_this_pairing := hp_this_pairing.keep hfr (by omega)
  have hp_this_reader := hp_this_reader.keep hfr (by omega)
  have hp_this_commandText := hp_this_commandText.keep hfr (by omega)
  have hp_this_line := hp_this_line.keep hfr (by omega)
  have hp_this_marsh_plans := hn_this
  have hF := hF.tr (hfr.wide (by omega) (by omega))
  refine lv_istore_n (lv' := [(3, .int q8.1), (0, .ref b), (1, .int x1), (2, .int x2)]) hx hb dX12_rewritePlan_11 rfl hl (by decide) rfl (fun ls hl => ?_)
  refine lv_aload_n hx hb dX12_rewritePlan_12 rfl (lv_at hl 1 rfl) ?_
  refine mm_get hC hM (k := 6) hc_this rfl inAX12 (by decide) q2_22 rfl dX12_rewritePlan_13 ?_
  refine lv_iload_n hx hb dX12_rewritePlan_16 rfl (lv_at hl 3 rfl) ?_
  obtain ⟨q17, hq17, hf⟩ := mm_bd hf
  refine mm_Vi (rest := []) hC hM (c_X10_endOfMoves l hq17 hp_this_commandText) q6_96 q1_11 ykX10_endOfMoves q6_130 q6_94 q6_95 hp_this_commandText.1 rfl ⟨rfl, rfl⟩ ⟨Nat.le_of_ble_eq_true rfl, Nat.le_of_ble_eq_true rfl⟩ rfl hl.1 rfl (Nat.le_of_ble_eq_true rfl) dX12_rewritePlan_17 ⟨Nat.le_of_ble_eq_true rfl, Nat.le_of_ble_eq_true rfl⟩ (fun r w17 H locs hM hw => ?_)
  obtain ⟨hr, hw⟩ := hw
  rw [hr]
  rw [hw] at hM
  refine lv_istore (lv' := [(4, .int q17), (3, .int q8.1), (0, .ref b), (1, .int x1), (2, .int x2)]) hx hb dX12_rewritePlan_20 hl (by decide) rfl (fun ls hl => ?_)
  refine lv_iload_n hx hb dX12_rewritePlan_22 rfl (lv_at hl 4 rfl) ?_
  refine lv_istore (lv' := [(5, .int x2), (4, .int q17), (3, .int q8.1), (0, .ref b), (1, .int x1), (2, .int x2)]) hx hb dX12_rewritePlan_23 hl (by decide) rfl (fun ls hl => ?_)
  have L25 : ∀ (n : Nat) (L25_x3 : Int32) (L25_x5 : Int32) (L25_marsh_plans_moves : Nat → Int32) (L25_marsh_plans_lengths : Nat → Int32) (X : Int32 × (Nat → Int32) × (Nat → Int32)), f_X12_rewritePlan_L25 K commandText_signs commandText_length x1 q17 n L25_x3 L25_x5 L25_marsh_plans_moves L25_marsh_plans_lengths = some X → ∀ (L25_w : va_W) (H : Heap) (locs : List Loc), mm_S G A s.heap L25_w H locs → (b, (.inr (12, [.ref (b + 1), .ref (b + 13), .ref (b + 25), .ref (b + 135), .ref (b + 141), .ref (b + 144), .ref (b + 147), .ref (b + 149), .ref (b + 151), .int snapshotTaken, .int lastErrorPosition, .int lastFailedCommand]) : va_E)) ∈ L25_w → (b + 151, (.inl (G.2 0, 20, .inl spareMoves) : va_E)) ∈ L25_w → (b + 1, (.inr (6, [.ref (b + 1 + 1), .ref (b + 1 + 3), .ref (b + 1 + 7), .ref (b + 1 + 10), .int marsh_fogSide]) : va_E)) ∈ L25_w → At9 G L25_w (b + 1 + 1) marsh_reeds_states marsh_reeds_count marsh_reeds_broken → At3 G L25_w (b + 1 + 3) marsh_fleet_numbers marsh_fleet_cells marsh_fleet_fares marsh_fleet_count marsh_fleet_nextNumber marsh_fleet_total marsh_fleet_removedFares marsh_fleet_meetings → At8 G L25_w (b + 1 + 7) L25_marsh_plans_moves L25_marsh_plans_lengths → At5 G L25_w (b + 1 + 10) marsh_landings_cells marsh_landings_count → At6 G L25_w (b + 13) snapshot_reeds_states snapshot_reeds_count snapshot_reeds_broken snapshot_fleet_numbers snapshot_fleet_cells snapshot_fleet_fares snapshot_fleet_count snapshot_fleet_nextNumber snapshot_fleet_total snapshot_fleet_removedFares snapshot_fleet_meetings snapshot_plans_moves snapshot_plans_lengths snapshot_landings_cells snapshot_landings_count snapshot_fogSide → At4 G L25_w (b + 25) history_slots history_free history_count → At11 G L25_w (b + 135) ways_tolls ways_queue ways_heap ways_heapSize ways_found ways_improved → At7 G L25_w (b + 141) pairing_costs pairing_best → At2 G L25_w (b + 144) reader_kinds reader_starts reader_count → At10 G L25_w (b + 147) commandText_signs commandText_length → At10 G L25_w (b + 149) line_signs line_length → mm_fr w L25_w b (b + 152) → ∀ (ls : Array Slot), lv_has ls 6 [(0, .ref b), (1, .int x1), (3, .int L25_x3), (4, .int q17), (5, .int L25_x5)] → (∀ (w9 : va_W) (H : Heap) (locs : List Loc), mm_S G A s.heap w9 H locs → (b, (.inr (12, [.ref (b + 1), .ref (b + 13), .ref (b + 25), .ref (b + 135), .ref (b + 141), .ref (b + 144), .ref (b + 147), .ref (b + 149), .ref (b + 151), .int snapshotTaken, .int lastErrorPosition, .int lastFailedCommand]) : va_E)) ∈ w9 → (b + 151, (.inl (G.2 0, 20, .inl spareMoves) : va_E)) ∈ w9 → (b + 1, (.inr (6, [.ref (b + 1 + 1), .ref (b + 1 + 3), .ref (b + 1 + 7), .ref (b + 1 + 10), .int marsh_fogSide]) : va_E)) ∈ w9 → At9 G w9 (b + 1 + 1) marsh_reeds_states marsh_reeds_count marsh_reeds_broken → At3 G w9 (b + 1 + 3) marsh_fleet_numbers marsh_fleet_cells marsh_fleet_fares marsh_fleet_count marsh_fleet_nextNumber marsh_fleet_total marsh_fleet_removedFares marsh_fleet_meetings → At8 G w9 (b + 1 + 7) X.2.1 X.2.2 → At5 G w9 (b + 1 + 10) marsh_landings_cells marsh_landings_count → At6 G w9 (b + 13) snapshot_reeds_states snapshot_reeds_count snapshot_reeds_broken snapshot_fleet_numbers snapshot_fleet_cells snapshot_fleet_fares snapshot_fleet_count snapshot_fleet_nextNumber snapshot_fleet_total snapshot_fleet_removedFares snapshot_fleet_meetings snapshot_plans_moves snapshot_plans_lengths snapshot_landings_cells snapshot_landings_count snapshot_fogSide → At4 G w9 (b + 25) history_slots history_free history_count → At11 G w9 (b + 135) ways_tolls ways_queue ways_heap ways_heapSize ways_found ways_improved → At7 G w9 (b + 141) pairing_costs pairing_best → At2 G w9 (b + 144) reader_kinds reader_starts reader_count → At10 G w9 (b + 147) commandText_signs commandText_length → At10 G w9 (b + 149) line_signs line_length → mm_fr w w9 b (b + 152) → ∀ (ls : Array Slot), lv_has ls 6 [(3, .int X.1)] → W p l e ({ frames := 2, cells := 0, slots := 0, locals := 46 } : Room) s m args below meth c H locs 0 0 Q (F0 m 63 ls [])) → W p l e ({ frames := 2, cells := 0, slots := 0, locals := 46 } : Room) s m args below meth c H locs 0 0 Q (F0 m 25 ls []) := by
    intro n
    induction n with
    | zero => intro L25_x3 L25_x5 L25_marsh_plans_moves L25_marsh_plans_lengths X hf; cases hf
    | succ n ih =>
      intro L25_x3 L25_x5 L25_marsh_plans_moves L25_marsh_plans_lengths X hf L25_w H locs hM hc_this hp_this_spareMoves hc_this_marsh hp_this_marsh_reeds hp_this_marsh_fleet hp_this_marsh_plans hp_this_marsh_landings hp_this_snapshot hp_this_history hp_this_ways hp_this_pairing hp_this_reader hp_this_commandText hp_this_line hF ls hl hk
      rw [f_X12_rewritePlan_L25] at hf
      refine lv_iload hx hb dX12_rewritePlan_25 (lv_at hl 4 rfl) ?_
      refine lv_iload hx hb dX12_rewritePlan_27 (lv_at hl 3 rfl) ?_
      refine lv_icmp_ge (tgt := 63) hx hb dX12_rewritePlan_29 (by decide) (fun hcd => ?_) (fun hcd => ?_)
      · rw [if_pos hcd] at hf
        cases hf
        exact hk _ _ _ hM hc_this hp_this_spareMoves hc_this_marsh hp_this_marsh_reeds hp_this_marsh_fleet hp_this_marsh_plans hp_this_marsh_landings hp_this_snapshot hp_this_history hp_this_ways hp_this_pairing hp_this_reader hp_this_commandText hp_this_line hF _ (lv_sub hl [2] rfl)
      · rw [if_neg hcd] at hf
        refine lv_iload_n hx hb dX12_rewritePlan_32 rfl (lv_at hl 2 rfl) ?_
        refine lv_if_lt (tgt := 63) hx hb dX12_rewritePlan_33 (by decide) (fun hcd => ?_) (fun hcd => ?_)
        · rw [if_pos hcd] at hf
          cases hf
          exact hk _ _ _ hM hc_this hp_this_spareMoves hc_this_marsh hp_this_marsh_reeds hp_this_marsh_fleet hp_this_marsh_plans hp_this_marsh_landings hp_this_snapshot hp_this_history hp_this_ways hp_this_pairing hp_this_reader hp_this_commandText hp_this_line hF _ (lv_sub hl [2] rfl)
        · rw [if_neg hcd] at hf
          refine lv_aload_n hx hb dX12_rewritePlan_36 rfl (lv_at hl 0 rfl) ?_
          refine mm_get hC hM (k := 0) hc_this rfl inAX12 (by decide) q2_16 rfl dX12_rewritePlan_37 ?_
          refine mm_get hC hM (k := 2) hc_this_marsh rfl inAX6 (by decide) q1_144 rfl dX12_rewritePlan_40 ?_
          refine lv_iload_n hx hb dX12_rewritePlan_43 rfl (lv_at hl 1 rfl) ?_
          refine lv_aload_n hx hb dX12_rewritePlan_44 rfl (lv_at hl 0 rfl) ?_
          refine mm_get hC hM (k := 6) hc_this rfl inAX12 (by decide) q2_22 rfl dX12_rewritePlan_45 ?_
          refine lv_iload hx hb dX12_rewritePlan_48 (lv_at hl 4 rfl) ?_
          obtain ⟨q50, hq50, hf⟩ := mm_bd hf
          refine mm_Vi (rest := [.int x1, .ref (b + 1 + 7)]) hC hM (c_X10_signAt l hq50 hp_this_commandText) q6_76 q1_11 ykX10_signAt q6_131 q6_74 q6_75 hp_this_commandText.1 rfl ⟨rfl, rfl⟩ ⟨Nat.le_of_ble_eq_true rfl, Nat.le_of_ble_eq_true rfl⟩ rfl hl.1 rfl (Nat.le_of_ble_eq_true rfl) dX12_rewritePlan_50 ⟨Nat.le_of_ble_eq_true rfl, Nat.le_of_ble_eq_true rfl⟩ (fun r w50 H locs hM hw => ?_)
          obtain ⟨hr, hw⟩ := hw
          rw [hr]
          rw [hw] at hM
          obtain ⟨q53, hq53, hf⟩ := mm_bd hf
          refine mm_Vi (rest := []) hC hM (c_X8_extend l hq53 hp_this_marsh_plans) q4_208 q1_5 ykX8_extend q4_205 q4_206 q4_207 hp_this_marsh_plans.1 rfl ⟨rfl, rfl⟩ ⟨Nat.le_of_ble_eq_true rfl, Nat.le_of_ble_eq_true rfl⟩ rfl hl.1 rfl (Nat.le_of_ble_eq_true rfl) dX12_rewritePlan_53 ⟨Nat.le_of_ble_eq_true rfl, Nat.le_of_ble_eq_true rfl⟩ (fun r w53 H locs hM hw => ?_)
          obtain ⟨hr, hn_this, hfr⟩ := hw
          rw [hr]
          have hc_this := hfr.keep hc_this (by omega)
          have hp_this_spareMoves := hfr.keep hp_this_spareMoves (by omega)
          have hc_this_marsh := hfr.keep hc_this_marsh (by omega)
          have hp_this_marsh_reeds := hp_this_marsh_reeds.keep hfr (by omega)
          have hp_this_marsh_fleet := hp_this_marsh_fleet.keep hfr (by omega)
          have hp_this_marsh_landings := hp_this_marsh_landings.keep hfr (by omega)
          have hp_this_snapshot := hp_this_snapshot.keep hfr (by omega)
          have hp_this_history := hp_this_history.keep hfr (by omega)
          have hp_this_ways := hp_this_ways.keep hfr (by omega)
          have hp_this_pairing := hp_this_pairing.keep hfr (by omega)
          have hp_this_reader := hp_this_reader.keep hfr (by omega)
          have hp_this_commandText := hp_this_commandText.keep hfr (by omega)
          have hp_this_line := hp_this_line.keep hfr (by omega)
          have hp_this_marsh_plans := hn_this
          have hF := hF.tr (hfr.wide (by omega) (by omega))
          refine lv_istore_n (lv' := [(3, .int q53.1), (0, .ref b), (1, .int x1), (4, .int q17), (5, .int L25_x5)]) hx hb dX12_rewritePlan_56 rfl hl (by decide) rfl (fun ls hl => ?_)
          refine lv_iinc (v := (L25_x5 + 1)) (lv' := [(5, .int (L25_x5 + 1)), (3, .int q53.1), (0, .ref b), (1, .int x1), (4, .int q17)]) hx hb dX12_rewritePlan_57 hl (k := 4) rfl rfl (by decide) rfl (fun ls hl => ?_)
          refine lv_goto (tgt := 25) hx hb dX12_rewritePlan_60 (by decide) ?_
          exact ih _ _ _ _ _ hf _ _ _ hM hc_this hp_this_spareMoves hc_this_marsh hp_this_marsh_reeds hp_this_marsh_fleet hp_this_marsh_plans hp_this_marsh_landings hp_this_snapshot hp_this_history hp_this_ways hp_this_pairing hp_this_reader hp_this_commandText hp_this_line hF _ (lv_sub hl [2, 3, 1, 4, 0] rfl) hk
  obtain ⟨q25, hq25, hf⟩ := mm_bd hf
  refine L25 K _ _ _ _ _ hq25 _ _ _ hM hc_this hp_this_spareMoves hc_this_marsh hp_this_marsh_reeds hp_this_marsh_fleet hp_this_marsh_plans hp_this_marsh_landings hp_this_snapshot hp_this_history hp_this_ways hp_this_pairing hp_this_reader hp_this_commandText hp_this_line hF _ (lv_sub hl [3, 4, 2, 1, 0] rfl) (fun w25 H locs hM hc_this hp_this_spareMoves hc_this_marsh hp_this_marsh_reeds hp_this_marsh_fleet hp_this_marsh_plans hp_this_marsh_landings hp_this_snapshot hp_this_history hp_this_ways hp_this_pairing hp_this_reader hp_this_commandText hp_this_line hF ls hl => ?_)
  refine lv_iload_n hx hb dX12_rewritePlan_63 rfl (lv_at hl 0 rfl) ?_
  cases hf
  exact hret hM dX12_rewritePlan_64 rfl ⟨rfl, ⟨hc_this, ⟨hc_this_marsh, hp_this_marsh_reeds, hp_this_marsh_fleet, hp_this_marsh_plans, hp_this_marsh_landings⟩, hp_this_snapshot, hp_this_history, hp_this_ways, hp_this_pairing, hp_this_reader, hp_this_commandText, hp_this_line, hp_this_spareMoves⟩, hF⟩
def f_X12_carryOut (K : Nat) (marsh_reeds_states : Nat → Int32) (marsh_reeds_count : Int32) (marsh_reeds_broken : Int32) (marsh_fleet_numbers : Nat → Int32) (marsh_fleet_cells : Nat → Int32) (marsh_fleet_fares : Nat → Int32) (marsh_fleet_count : Int32) (marsh_fleet_nextNumber : Int32) (marsh_fleet_total : Int32) (marsh_fleet_meetings : Int32) (marsh_plans_moves : Nat → Int32) (marsh_plans_lengths : Nat → Int32) (marsh_landings_cells : Nat → Int32) (marsh_landings_count : Int32) (marsh_fogSide : Int32) (ways_tolls : Nat → Int32) (ways_queue : Nat → Int32) (ways_found : Nat → Int32) (commandText_signs : Nat → Int32) (commandText_length : Int32) (x2 : Int32) (kc : Nat) : Option (Int32 × (Nat → Int32) × Int32 × Int32 × (Nat → Int32) × (Nat → Int32) × (Nat → Int32) × Int32 × Int32 × Int32 × Int32 × (Nat → Int32) × (Nat → Int32) × (Nat → Int32) × Int32 × Int32 × (Nat → Int32) × (Nat → Int32) × (Nat → Int32)) := (f_X1_number K commandText_signs commandText_length x2 0 kc).bind fun q7 => (f_X1_number K commandText_signs commandText_length x2 1 kc).bind fun q18 => mm_g (mm_ck (nI kc) 11) (if (mm_tS (nI kc).toNatClampNeg) = 1 then (f_X6_growReed K marsh_reeds_states marsh_reeds_count marsh_fleet_cells marsh_fleet_count q7 q18).bind fun q95 => some (q95.1, q95.2.1, q95.2.2, marsh_reeds_broken, marsh_fleet_numbers, marsh_fleet_cells, marsh_fleet_fares, marsh_fleet_count, marsh_fleet_nextNumber, marsh_fleet_total, marsh_fleet_meetings, marsh_plans_moves, marsh_plans_lengths, marsh_landings_cells, marsh_landings_count, marsh_fogSide, ways_tolls, ways_queue, ways_found) else if (mm_tS (nI kc).toNatClampNeg) = 2 then (f_X6_snapReed marsh_reeds_states marsh_reeds_broken q7 q18).bind fun q106 => some (q106.1, q106.2.1, marsh_reeds_count, q106.2.2, marsh_fleet_numbers, marsh_fleet_cells, marsh_fleet_fares, marsh_fleet_count, marsh_fleet_nextNumber, marsh_fleet_total, marsh_fleet_meetings, marsh_plans_moves, marsh_plans_lengths, marsh_landings_cells, marsh_landings_count, marsh_fogSide, ways_tolls, ways_queue, ways_found) else if (mm_tS (nI kc).toNatClampNeg) = 3 then (f_X6_launchBoat K marsh_reeds_states marsh_fleet_numbers marsh_fleet_cells marsh_fleet_fares marsh_fleet_count marsh_fleet_nextNumber q7 q18).bind fun q117 => some (q117.1, marsh_reeds_states, marsh_reeds_count, marsh_reeds_broken, q117.2.1, q117.2.2.1, q117.2.2.2.1, q117.2.2.2.2.1, q117.2.2.2.2.2, marsh_fleet_total, marsh_fleet_meetings, marsh_plans_moves, marsh_plans_lengths, marsh_landings_cells, marsh_landings_count, marsh_fogSide, ways_tolls, ways_queue, ways_found) else if (mm_tS (nI kc).toNatClampNeg) = 4 then (f_X12_rewritePlan K marsh_plans_moves marsh_plans_lengths commandText_signs commandText_length q7 (x2 + (mm_pl kc))).bind fun q132 => some (q132.1, marsh_reeds_states, marsh_reeds_count, marsh_reeds_broken, marsh_fleet_numbers, marsh_fleet_cells, marsh_fleet_fares, marsh_fleet_count, marsh_fleet_nextNumber, marsh_fleet_total, marsh_fleet_meetings, q132.2.1, q132.2.2, marsh_landings_cells, marsh_landings_count, marsh_fogSide, ways_tolls, ways_queue, ways_found) else if (mm_tS (nI kc).toNatClampNeg) = 5 then (f_X8_putMirrored K marsh_plans_moves marsh_plans_lengths q7 q18).bind fun q146 => some (q146.1, marsh_reeds_states, marsh_reeds_count, marsh_reeds_broken, marsh_fleet_numbers, marsh_fleet_cells, marsh_fleet_fares, marsh_fleet_count, marsh_fleet_nextNumber, marsh_fleet_total, marsh_fleet_meetings, q146.2.1, q146.2.2, marsh_landings_cells, marsh_landings_count, marsh_fogSide, ways_tolls, ways_queue, ways_found) else if (mm_tS (nI kc).toNatClampNeg) = 6 then (f_X8_putWayBack K marsh_plans_moves marsh_plans_lengths q7 q18).bind fun q160 => some (q160.1, marsh_reeds_states, marsh_reeds_count, marsh_reeds_broken, marsh_fleet_numbers, marsh_fleet_cells, marsh_fleet_fares, marsh_fleet_count, marsh_fleet_nextNumber, marsh_fleet_total, marsh_fleet_meetings, q160.2.1, q160.2.2, marsh_landings_cells, marsh_landings_count, marsh_fogSide, ways_tolls, ways_queue, ways_found) else if (mm_tS (nI kc).toNatClampNeg) = 7 then (f_X8_shorten K marsh_plans_moves marsh_plans_lengths q7).bind fun q172 => some (q172.1, marsh_reeds_states, marsh_reeds_count, marsh_reeds_broken, marsh_fleet_numbers, marsh_fleet_cells, marsh_fleet_fares, marsh_fleet_count, marsh_fleet_nextNumber, marsh_fleet_total, marsh_fleet_meetings, q172.2.1, q172.2.2, marsh_landings_cells, marsh_landings_count, marsh_fogSide, ways_tolls, ways_queue, ways_found) else if (mm_tS (nI kc).toNatClampNeg) = 8 then (f_X6_sailBy K marsh_reeds_states marsh_fleet_numbers marsh_fleet_cells marsh_fleet_fares marsh_fleet_count marsh_fleet_total marsh_fleet_meetings marsh_plans_moves marsh_plans_lengths q7 q18).bind fun q183 => some (q183.1, marsh_reeds_states, marsh_reeds_count, marsh_reeds_broken, marsh_fleet_numbers, q183.2.1, q183.2.2.1, marsh_fleet_count, marsh_fleet_nextNumber, q183.2.2.2.1, q183.2.2.2.2, marsh_plans_moves, marsh_plans_lengths, marsh_landings_cells, marsh_landings_count, marsh_fogSide, ways_tolls, ways_queue, ways_found) else if (mm_tS (nI kc).toNatClampNeg) = 9 then (f_X1_number K commandText_signs commandText_length x2 2 kc).bind fun q194 => (f_X1_number K commandText_signs commandText_length x2 3 kc).bind fun q206 => (f_X6_layWay K marsh_reeds_states marsh_fleet_numbers marsh_fleet_cells marsh_fleet_count marsh_plans_moves marsh_plans_lengths ways_tolls ways_queue ways_found q7 q18 q194 q206).bind fun q226 => some (q226.1, marsh_reeds_states, marsh_reeds_count, marsh_reeds_broken, marsh_fleet_numbers, marsh_fleet_cells, marsh_fleet_fares, marsh_fleet_count, marsh_fleet_nextNumber, marsh_fleet_total, marsh_fleet_meetings, q226.2.1, q226.2.2.1, marsh_landings_cells, marsh_landings_count, marsh_fogSide, q226.2.2.2.1, q226.2.2.2.2.1, q226.2.2.2.2.2) else if (mm_tS (nI kc).toNatClampNeg) = 10 then (f_X5_build K marsh_landings_cells marsh_landings_count q7 q18).bind fun q240 => some (q240.1, marsh_reeds_states, marsh_reeds_count, marsh_reeds_broken, marsh_fleet_numbers, marsh_fleet_cells, marsh_fleet_fares, marsh_fleet_count, marsh_fleet_nextNumber, marsh_fleet_total, marsh_fleet_meetings, marsh_plans_moves, marsh_plans_lengths, q240.2.1, q240.2.2, marsh_fogSide, ways_tolls, ways_queue, ways_found) else if (mm_tS (nI kc).toNatClampNeg) = 11 then (f_X6_moveFog marsh_fogSide q7).bind fun q249 => some (q249.1, marsh_reeds_states, marsh_reeds_count, marsh_reeds_broken, marsh_fleet_numbers, marsh_fleet_cells, marsh_fleet_fares, marsh_fleet_count, marsh_fleet_nextNumber, marsh_fleet_total, marsh_fleet_meetings, marsh_plans_moves, marsh_plans_lengths, marsh_landings_cells, marsh_landings_count, q249.2, ways_tolls, ways_queue, ways_found) else some ((-5), marsh_reeds_states, marsh_reeds_count, marsh_reeds_broken, marsh_fleet_numbers, marsh_fleet_cells, marsh_fleet_fares, marsh_fleet_count, marsh_fleet_nextNumber, marsh_fleet_total, marsh_fleet_meetings, marsh_plans_moves, marsh_plans_lengths, marsh_landings_cells, marsh_landings_count, marsh_fogSide, ways_tolls, ways_queue, ways_found))
set_option maxHeartbeats 4000000 in
set_option maxRecDepth 100000 in
theorem c_X12_carryOut (l : Launch) {G : mm_G} {K : Nat} {w : va_W} {sz : Nat} {b : Nat} {kc : Nat} {marsh_reeds_states : Nat → Int32} {marsh_reeds_count : Int32} {marsh_reeds_broken : Int32} {marsh_fleet_numbers : Nat → Int32} {marsh_fleet_cells : Nat → Int32} {marsh_fleet_fares : Nat → Int32} {marsh_fleet_count : Int32} {marsh_fleet_nextNumber : Int32} {marsh_fleet_total : Int32} {marsh_fleet_removedFares : Int32} {marsh_fleet_meetings : Int32} {marsh_plans_moves : Nat → Int32} {marsh_plans_lengths : Nat → Int32} {marsh_landings_cells : Nat → Int32} {marsh_landings_count : Int32} {marsh_fogSide : Int32} {snapshot_reeds_states : Nat → Int32} {snapshot_reeds_count : Int32} {snapshot_reeds_broken : Int32} {snapshot_fleet_numbers : Nat → Int32} {snapshot_fleet_cells : Nat → Int32} {snapshot_fleet_fares : Nat → Int32} {snapshot_fleet_count : Int32} {snapshot_fleet_nextNumber : Int32} {snapshot_fleet_total : Int32} {snapshot_fleet_removedFares : Int32} {snapshot_fleet_meetings : Int32} {snapshot_plans_moves : Nat → Int32} {snapshot_plans_lengths : Nat → Int32} {snapshot_landings_cells : Nat → Int32} {snapshot_landings_count : Int32} {snapshot_fogSide : Int32} {history_slots : Nat → mm_MV} {history_free : Int32} {history_count : Int32} {ways_tolls : Nat → Int32} {ways_queue : Nat → Int32} {ways_heap : Nat → Int32} {ways_heapSize : Int32} {ways_found : Nat → Int32} {ways_improved : Nat → Int32} {pairing_costs : Nat → Int32} {pairing_best : Nat → Int32} {reader_kinds : Nat → Int32} {reader_starts : Nat → Int32} {reader_count : Int32} {commandText_signs : Nat → Int32} {commandText_length : Int32} {line_signs : Nat → Int32} {line_length : Int32} {spareMoves : Nat → Int32} {snapshotTaken : Int32} {lastErrorPosition : Int32} {lastFailedCommand : Int32} {x2 : Int32} {X : Int32 × (Nat → Int32) × Int32 × Int32 × (Nat → Int32) × (Nat → Int32) × (Nat → Int32) × Int32 × Int32 × Int32 × Int32 × (Nat → Int32) × (Nat → Int32) × (Nat → Int32) × Int32 × Int32 × (Nat → Int32) × (Nat → Int32) × (Nat → Int32)} (hf : f_X12_carryOut K marsh_reeds_states marsh_reeds_count marsh_reeds_broken marsh_fleet_numbers marsh_fleet_cells marsh_fleet_fares marsh_fleet_count marsh_fleet_nextNumber marsh_fleet_total marsh_fleet_meetings marsh_plans_moves marsh_plans_lengths marsh_landings_cells marsh_landings_count marsh_fogSide ways_tolls ways_queue ways_found commandText_signs commandText_length x2 kc = some X) (hp_this : At12 G w b marsh_reeds_states marsh_reeds_count marsh_reeds_broken marsh_fleet_numbers marsh_fleet_cells marsh_fleet_fares marsh_fleet_count marsh_fleet_nextNumber marsh_fleet_total marsh_fleet_removedFares marsh_fleet_meetings marsh_plans_moves marsh_plans_lengths marsh_landings_cells marsh_landings_count marsh_fogSide snapshot_reeds_states snapshot_reeds_count snapshot_reeds_broken snapshot_fleet_numbers snapshot_fleet_cells snapshot_fleet_fares snapshot_fleet_count snapshot_fleet_nextNumber snapshot_fleet_total snapshot_fleet_removedFares snapshot_fleet_meetings snapshot_plans_moves snapshot_plans_lengths snapshot_landings_cells snapshot_landings_count snapshot_fogSide history_slots history_free history_count ways_tolls ways_queue ways_heap ways_heapSize ways_found ways_improved pairing_costs pairing_best reader_kinds reader_starts reader_count commandText_signs commandText_length line_signs line_length spareMoves snapshotTaken lastErrorPosition lastFailedCommand) (hkc : kc < 11) : Met l yX12_carryOut (Cond.code yX12_carryOut cX12_carryOut 7 (some .int) :: gAll) ({ frames := 5, cells := 0, slots := 0, locals := 147 }) (va_Pc [.ref b, .ref (G.2 (20 + kc)), .int x2] (mm_Pre G w sz)) (mm_Qi G w sz (fun r w' => r = X.1 ∧ At12 G w' b X.2.1 X.2.2.1 X.2.2.2.1 X.2.2.2.2.1 X.2.2.2.2.2.1 X.2.2.2.2.2.2.1 X.2.2.2.2.2.2.2.1 X.2.2.2.2.2.2.2.2.1 X.2.2.2.2.2.2.2.2.2.1 marsh_fleet_removedFares X.2.2.2.2.2.2.2.2.2.2.1 X.2.2.2.2.2.2.2.2.2.2.2.1 X.2.2.2.2.2.2.2.2.2.2.2.2.1 X.2.2.2.2.2.2.2.2.2.2.2.2.2.1 X.2.2.2.2.2.2.2.2.2.2.2.2.2.2.1 X.2.2.2.2.2.2.2.2.2.2.2.2.2.2.2.1 snapshot_reeds_states snapshot_reeds_count snapshot_reeds_broken snapshot_fleet_numbers snapshot_fleet_cells snapshot_fleet_fares snapshot_fleet_count snapshot_fleet_nextNumber snapshot_fleet_total snapshot_fleet_removedFares snapshot_fleet_meetings snapshot_plans_moves snapshot_plans_lengths snapshot_landings_cells snapshot_landings_count snapshot_fogSide history_slots history_free history_count X.2.2.2.2.2.2.2.2.2.2.2.2.2.2.2.2.1 X.2.2.2.2.2.2.2.2.2.2.2.2.2.2.2.2.2.1 ways_heap ways_heapSize X.2.2.2.2.2.2.2.2.2.2.2.2.2.2.2.2.2.2 ways_improved pairing_costs pairing_best reader_kinds reader_starts reader_count commandText_signs commandText_length line_signs line_length spareMoves snapshotTaken lastErrorPosition lastFailedCommand ∧ mm_fr w w' b (b + 152))) 0 0 (va_A w sz) := by
  refine mm_headI [.ref b, .ref (G.2 (20 + kc)), .int x2] (by decide +kernel) rfl (Nat.le_of_ble_eq_true rfl) ?_
  intro p e s m args below meth c A Q hsz hC hM hret ls hl
  have hx := hC.1.1
  have hb := hC.1.2.1
  have hl : lv_has ls 7 [(0, .ref b), (1, .ref (G.2 (20 + kc))), (2, .int x2)] := hl
  have hF : mm_fr w w b (b + 152) := mm_fr.rf
  rw [f_X12_carryOut] at hf
  obtain ⟨hc_this, hp_this_marsh, hp_this_snapshot, hp_this_history, hp_this_ways, hp_this_pairing, hp_this_reader, hp_this_commandText, hp_this_line, hp_this_spareMoves⟩ := hp_this
  obtain ⟨hc_this_marsh, hp_this_marsh_reeds, hp_this_marsh_fleet, hp_this_marsh_plans, hp_this_marsh_landings⟩ := hp_this_marsh
  refine lv_aload_n hx hb dX12_carryOut_0 rfl (lv_at hl 1 rfl) ?_
  refine lv_aload_n hx hb dX12_carryOut_1 rfl (lv_at hl 0 rfl) ?_
  refine mm_get hC hM (k := 6) hc_this rfl inAX12 (by decide) q2_22 rfl dX12_carryOut_2 ?_
  refine lv_iload_n hx hb dX12_carryOut_5 rfl (lv_at hl 2 rfl) ?_
  refine lv_iconst (v := 0) hx hb dX12_carryOut_6 (by decide) ?_
  obtain ⟨q7, hq7, hf⟩ := mm_bd hf
  refine mm_Ri (rest := []) hC hM (c_X1_number l hq7 hp_this_commandText hkc) q6_116 q1_30 ykX1_number q6_113 q6_114 q6_115 (va_recvE (i := kc) hC.2.2.1.2.2.2.2.2.2.1 hkc hM.2.2) ⟨rfl, rfl⟩ ⟨Nat.le_of_ble_eq_true rfl, Nat.le_of_ble_eq_true rfl⟩ rfl hl.1 rfl (Nat.le_of_ble_eq_true rfl) dX12_carryOut_7 ⟨Nat.le_of_ble_eq_true rfl, Nat.le_of_ble_eq_true rfl⟩ (fun r w7 H locs hM hw => ?_)
  obtain ⟨hr, hw⟩ := hw
  rw [hr]
  rw [hw] at hM
  refine lv_istore_n (lv' := [(3, .int q7), (0, .ref b), (1, .ref (G.2 (20 + kc))), (2, .int x2)]) hx hb dX12_carryOut_10 rfl hl (by decide) rfl (fun ls hl => ?_)
  refine lv_aload_n hx hb dX12_carryOut_11 rfl (lv_at hl 2 rfl) ?_
  refine lv_aload_n hx hb dX12_carryOut_12 rfl (lv_at hl 1 rfl) ?_
  refine mm_get hC hM (k := 6) hc_this rfl inAX12 (by decide) q2_22 rfl dX12_carryOut_13 ?_
  refine lv_iload_n hx hb dX12_carryOut_16 rfl (lv_at hl 3 rfl) ?_
  refine lv_iconst (v := 1) hx hb dX12_carryOut_17 (by decide) ?_
  obtain ⟨q18, hq18, hf⟩ := mm_bd hf
  refine mm_Ri (rest := []) hC hM (c_X1_number l hq18 hp_this_commandText hkc) q6_116 q1_30 ykX1_number q6_113 q6_114 q6_115 (va_recvE (i := kc) hC.2.2.1.2.2.2.2.2.2.1 hkc hM.2.2) ⟨rfl, rfl⟩ ⟨Nat.le_of_ble_eq_true rfl, Nat.le_of_ble_eq_true rfl⟩ rfl hl.1 rfl (Nat.le_of_ble_eq_true rfl) dX12_carryOut_18 ⟨Nat.le_of_ble_eq_true rfl, Nat.le_of_ble_eq_true rfl⟩ (fun r w18 H locs hM hw => ?_)
  obtain ⟨hr, hw⟩ := hw
  rw [hr]
  rw [hw] at hM
  refine lv_istore (lv' := [(4, .int q18), (3, .int q7), (0, .ref b), (1, .ref (G.2 (20 + kc))), (2, .int x2)]) hx hb dX12_carryOut_21 hl (by decide) rfl (fun ls hl => ?_)
  refine va_gets hx hb hC.2.2.1.2.2.2.2.2.1.1 hM.2.2 hC.1.2.2.2.1 (hC.1.2.2.2.2 _ q6_117) (fun _ h => h) dX12_carryOut_23 ?_
  refine lv_aload_n hx hb dX12_carryOut_26 rfl (lv_at hl 3 rfl) ?_
  refine mm_RUi (rest := [.ref (G.2 14)]) (owner := "java/lang/Enum") hC hM (c_Jx29ce0_ordinal_8abf5 l hkc) q6_124 q1_29 ykJx29ce0_ordinal_8abf5 rfl q6_119 q6_120 q6_123 q6_122 (va_recvE (i := kc) hC.2.2.1.2.2.2.2.2.2.1 hkc hM.2.2) ⟨rfl, rfl⟩ ⟨Nat.le_of_ble_eq_true rfl, Nat.le_of_ble_eq_true rfl⟩ rfl hl.1 rfl (Nat.le_of_ble_eq_true rfl) dX12_carryOut_27 ⟨Nat.le_of_ble_eq_true rfl, Nat.le_of_ble_eq_true rfl⟩ (fun r w27 H locs hM hw => ?_)
  obtain ⟨hr, hw⟩ := hw
  rw [hw] at hM
  rw [hr]
  obtain ⟨hg30, hf⟩ := mm_gd hf
  refine va_ti hx hb hC.2.2.1.2.2.2.2.2.1.2 hM.2.2 hg30 rfl dX12_carryOut_30 ?_
  by_cases c31_0 : (mm_tS (nI kc).toNatClampNeg) = 1
  · rw [if_pos c31_0] at hf
    rw [c31_0]
    refine lv_tableIn (tgt := 88) hx hb dX12_carryOut_31 (by decide) (by decide) rfl (by decide) ?_
    refine lv_aload_n hx hb dX12_carryOut_88 rfl (lv_at hl 2 rfl) ?_
    refine mm_get hC hM (k := 0) hc_this rfl inAX12 (by decide) q2_16 rfl dX12_carryOut_89 ?_
    refine lv_iload_n hx hb dX12_carryOut_92 rfl (lv_at hl 1 rfl) ?_
    refine lv_iload hx hb dX12_carryOut_93 (lv_at hl 0 rfl) ?_
    obtain ⟨q95, hq95, hf⟩ := mm_bd hf
    refine mm_Vi (rest := []) hC hM (c_X6_growReed l hq95 ⟨hc_this_marsh, hp_this_marsh_reeds, hp_this_marsh_fleet, hp_this_marsh_plans, hp_this_marsh_landings⟩) q3_183 q1_2 ykX6_growReed q3_180 q3_181 q3_182 hc_this_marsh rfl ⟨rfl, rfl⟩ ⟨Nat.le_of_ble_eq_true rfl, Nat.le_of_ble_eq_true rfl⟩ rfl hl.1 rfl (Nat.le_of_ble_eq_true rfl) dX12_carryOut_95 ⟨Nat.le_of_ble_eq_true rfl, Nat.le_of_ble_eq_true rfl⟩ (fun r w95 H locs hM hw => ?_)
    obtain ⟨hr, hn_this, hfr⟩ := hw
    rw [hr]
    have hc_this := hfr.keep hc_this (by omega)
    have hp_this_spareMoves := hfr.keep hp_this_spareMoves (by omega)
    have hp_this_snapshot := hp_this_snapshot.keep hfr (by omega)
    have hp_this_history := hp_this_history.keep hfr (by omega)
    have hp_this_ways := hp_this_ways.keep hfr (by omega)
    have hp_this_pairing := hp_this_pairing.keep hfr (by omega)
    have hp_this_reader := hp_this_reader.keep hfr (by omega)
    have hp_this_commandText := hp_this_commandText.keep hfr (by omega)
    have hp_this_line := hp_this_line.keep hfr (by omega)
    obtain ⟨hc_this_marsh, hp_this_marsh_reeds, hp_this_marsh_fleet, hp_this_marsh_plans, hp_this_marsh_landings⟩ := hn_this
    have hF := hF.tr (hfr.wide (by omega) (by omega))
    cases hf
    exact hret hM dX12_carryOut_98 rfl ⟨rfl, ⟨hc_this, ⟨hc_this_marsh, hp_this_marsh_reeds, hp_this_marsh_fleet, hp_this_marsh_plans, hp_this_marsh_landings⟩, hp_this_snapshot, hp_this_history, hp_this_ways, hp_this_pairing, hp_this_reader, hp_this_commandText, hp_this_line, hp_this_spareMoves⟩, hF⟩
  · rw [if_neg c31_0] at hf
    by_cases c31_1 : (mm_tS (nI kc).toNatClampNeg) = 2
    · rw [if_pos c31_1] at hf
      rw [c31_1]
      refine lv_tableIn (tgt := 99) hx hb dX12_carryOut_31 (by decide) (by decide) rfl (by decide) ?_
      refine lv_aload_n hx hb dX12_carryOut_99 rfl (lv_at hl 2 rfl) ?_
      refine mm_get hC hM (k := 0) hc_this rfl inAX12 (by decide) q2_16 rfl dX12_carryOut_100 ?_
      refine lv_iload_n hx hb dX12_carryOut_103 rfl (lv_at hl 1 rfl) ?_
      refine lv_iload hx hb dX12_carryOut_104 (lv_at hl 0 rfl) ?_
      obtain ⟨q106, hq106, hf⟩ := mm_bd hf
      refine mm_Vi (rest := []) hC hM (c_X6_snapReed l hq106 ⟨hc_this_marsh, hp_this_marsh_reeds, hp_this_marsh_fleet, hp_this_marsh_plans, hp_this_marsh_landings⟩) q4_59 q1_2 ykX6_snapReed q4_56 q4_57 q4_58 hc_this_marsh rfl ⟨rfl, rfl⟩ ⟨Nat.le_of_ble_eq_true rfl, Nat.le_of_ble_eq_true rfl⟩ rfl hl.1 rfl (Nat.le_of_ble_eq_true rfl) dX12_carryOut_106 ⟨Nat.le_of_ble_eq_true rfl, Nat.le_of_ble_eq_true rfl⟩ (fun r w106 H locs hM hw => ?_)
      obtain ⟨hr, hn_this, hfr⟩ := hw
      rw [hr]
      have hc_this := hfr.keep hc_this (by omega)
      have hp_this_spareMoves := hfr.keep hp_this_spareMoves (by omega)
      have hp_this_snapshot := hp_this_snapshot.keep hfr (by omega)
      have hp_this_history := hp_this_history.keep hfr (by omega)
      have hp_this_ways := hp_this_ways.keep hfr (by omega)
      have hp_this_pairing := hp_this_pairing.keep hfr (by omega)
      have hp_this_reader := hp_this_reader.keep hfr (by omega)
      have hp_this_commandText := hp_this_commandText.keep hfr (by omega)
      have hp_this_line := hp_this_line.keep hfr (by omega)
      obtain ⟨hc_this_marsh, hp_this_marsh_reeds, hp_this_marsh_fleet, hp_this_marsh_plans, hp_this_marsh_landings⟩ := hn_this
      have hF := hF.tr (hfr.wide (by omega) (by omega))
      cases hf
      exact hret hM dX12_carryOut_109 rfl ⟨rfl, ⟨hc_this, ⟨hc_this_marsh, hp_this_marsh_reeds, hp_this_marsh_fleet, hp_this_marsh_plans, hp_this_marsh_landings⟩, hp_this_snapshot, hp_this_history, hp_this_ways, hp_this_pairing, hp_this_reader, hp_this_commandText, hp_this_line, hp_this_spareMoves⟩, hF⟩
    · rw [if_neg c31_1] at hf
      by_cases c31_2 : (mm_tS (nI kc).toNatClampNeg) = 3
      · rw [if_pos c31_2] at hf
        rw [c31_2]
        refine lv_tableIn (tgt := 110) hx hb dX12_carryOut_31 (by decide) (by decide) rfl (by decide) ?_
        refine lv_aload_n hx hb dX12_carryOut_110 rfl (lv_at hl 2 rfl) ?_
        refine mm_get hC hM (k := 0) hc_this rfl inAX12 (by decide) q2_16 rfl dX12_carryOut_111 ?_
        refine lv_iload_n hx hb dX12_carryOut_114 rfl (lv_at hl 1 rfl) ?_
        refine lv_iload hx hb dX12_carryOut_115 (lv_at hl 0 rfl) ?_
        obtain ⟨q117, hq117, hf⟩ := mm_bd hf
        refine mm_Vi (rest := []) hC hM (c_X6_launchBoat l hq117 ⟨hc_this_marsh, hp_this_marsh_reeds, hp_this_marsh_fleet, hp_this_marsh_plans, hp_this_marsh_landings⟩) q4_121 q1_2 ykX6_launchBoat q4_118 q4_119 q4_120 hc_this_marsh rfl ⟨rfl, rfl⟩ ⟨Nat.le_of_ble_eq_true rfl, Nat.le_of_ble_eq_true rfl⟩ rfl hl.1 rfl (Nat.le_of_ble_eq_true rfl) dX12_carryOut_117 ⟨Nat.le_of_ble_eq_true rfl, Nat.le_of_ble_eq_true rfl⟩ (fun r w117 H locs hM hw => ?_)
        obtain ⟨hr, hn_this, hfr⟩ := hw
        rw [hr]
        have hc_this := hfr.keep hc_this (by omega)
        have hp_this_spareMoves := hfr.keep hp_this_spareMoves (by omega)
        have hp_this_snapshot := hp_this_snapshot.keep hfr (by omega)
        have hp_this_history := hp_this_history.keep hfr (by omega)
        have hp_this_ways := hp_this_ways.keep hfr (by omega)
        have hp_this_pairing := hp_this_pairing.keep hfr (by omega)
        have hp_this_reader := hp_this_reader.keep hfr (by omega)
        have hp_this_commandText := hp_this_commandText.keep hfr (by omega)
        have hp_this_line := hp_this_line.keep hfr (by omega)
        obtain ⟨hc_this_marsh, hp_this_marsh_reeds, hp_this_marsh_fleet, hp_this_marsh_plans, hp_this_marsh_landings⟩ := hn_this
        have hF := hF.tr (hfr.wide (by omega) (by omega))
        cases hf
        exact hret hM dX12_carryOut_120 rfl ⟨rfl, ⟨hc_this, ⟨hc_this_marsh, hp_this_marsh_reeds, hp_this_marsh_fleet, hp_this_marsh_plans, hp_this_marsh_landings⟩, hp_this_snapshot, hp_this_history, hp_this_ways, hp_this_pairing, hp_this_reader, hp_this_commandText, hp_this_line, hp_this_spareMoves⟩, hF⟩
      · rw [if_neg c31_2] at hf
        by_cases c31_3 : (mm_tS (nI kc).toNatClampNeg) = 4
        · rw [if_pos c31_3] at hf
          rw [c31_3]
          refine lv_tableIn (tgt := 121) hx hb dX12_carryOut_31 (by decide) (by decide) rfl (by decide) ?_
          refine lv_aload_n hx hb dX12_carryOut_121 rfl (lv_at hl 2 rfl) ?_
          refine lv_iload_n hx hb dX12_carryOut_122 rfl (lv_at hl 1 rfl) ?_
          refine lv_iload_n hx hb dX12_carryOut_123 rfl (lv_at hl 4 rfl) ?_
          refine lv_aload_n hx hb dX12_carryOut_124 rfl (lv_at hl 3 rfl) ?_
          refine vk_getf hx hb (hC.2.2.1.2.2.2.2.2.2.2.1 kc hkc) hM.2.2 hC.1.2.2.2.1 (hC.1.2.2.2.2 _ q9_119) (fun _ h => h) dX12_carryOut_125 ?_
          refine mm_Ri (rest := [.int x2, .int q7, .ref b]) hC hM (c_J0_length_8abf5 l hkc) q6_28 q1_18 ykJ0_length_8abf5 q6_125 q6_26 q6_27 (vk_recv (i := kc) hC.2.2.1.2.2.2.2.2.2.2.2.1 hkc hM.2.2) ⟨rfl, rfl⟩ ⟨Nat.le_of_ble_eq_true rfl, Nat.le_of_ble_eq_true rfl⟩ rfl hl.1 rfl (Nat.le_of_ble_eq_true rfl) dX12_carryOut_128 ⟨Nat.le_of_ble_eq_true rfl, Nat.le_of_ble_eq_true rfl⟩ (fun r w128 H locs hM hw => ?_)
          obtain ⟨hr, hw⟩ := hw
          rw [hw] at hM
          rw [hr]
          refine lv_iadd hx hb dX12_carryOut_131 ?_
          obtain ⟨q132, hq132, hf⟩ := mm_bd hf
          refine mm_Vi (rest := []) hC hM (c_X12_rewritePlan l hq132 ⟨hc_this, ⟨hc_this_marsh, hp_this_marsh_reeds, hp_this_marsh_fleet, hp_this_marsh_plans, hp_this_marsh_landings⟩, hp_this_snapshot, hp_this_history, hp_this_ways, hp_this_pairing, hp_this_reader, hp_this_commandText, hp_this_line, hp_this_spareMoves⟩) q6_129 q1_1 ykX12_rewritePlan q6_126 q6_128 qp_139387c0 hc_this rfl ⟨rfl, rfl⟩ ⟨Nat.le_of_ble_eq_true rfl, Nat.le_of_ble_eq_true rfl⟩ rfl hl.1 rfl (Nat.le_of_ble_eq_true rfl) dX12_carryOut_132 ⟨Nat.le_of_ble_eq_true rfl, Nat.le_of_ble_eq_true rfl⟩ (fun r w132 H locs hM hw => ?_)
          obtain ⟨hr, hn_this, hfr⟩ := hw
          rw [hr]
          obtain ⟨hc_this, hp_this_marsh, hp_this_snapshot, hp_this_history, hp_this_ways, hp_this_pairing, hp_this_reader, hp_this_commandText, hp_this_line, hp_this_spareMoves⟩ := hn_this
          obtain ⟨hc_this_marsh, hp_this_marsh_reeds, hp_this_marsh_fleet, hp_this_marsh_plans, hp_this_marsh_landings⟩ := hp_this_marsh
          have hF := hF.tr (hfr.wide (by omega) (by omega))
          cases hf
          exact hret hM dX12_carryOut_135 rfl ⟨rfl, ⟨hc_this, ⟨hc_this_marsh, hp_this_marsh_reeds, hp_this_marsh_fleet, hp_this_marsh_plans, hp_this_marsh_landings⟩, hp_this_snapshot, hp_this_history, hp_this_ways, hp_this_pairing, hp_this_reader, hp_this_commandText, hp_this_line, hp_this_spareMoves⟩, hF⟩
        · rw [if_neg c31_3] at hf
          by_cases c31_4 : (mm_tS (nI kc).toNatClampNeg) = 5
          · rw [if_pos c31_4] at hf
            rw [c31_4]
            refine lv_tableIn (tgt := 136) hx hb dX12_carryOut_31 (by decide) (by decide) rfl (by decide) ?_
            refine lv_aload_n hx hb dX12_carryOut_136 rfl (lv_at hl 2 rfl) ?_
            refine mm_get hC hM (k := 0) hc_this rfl inAX12 (by decide) q2_16 rfl dX12_carryOut_137 ?_
            refine mm_get hC hM (k := 2) hc_this_marsh rfl inAX6 (by decide) q1_144 rfl dX12_carryOut_140 ?_
            refine lv_iload_n hx hb dX12_carryOut_143 rfl (lv_at hl 1 rfl) ?_
            refine lv_iload hx hb dX12_carryOut_144 (lv_at hl 0 rfl) ?_
            obtain ⟨q146, hq146, hf⟩ := mm_bd hf
            refine mm_Vi (rest := []) hC hM (c_X8_putMirrored l hq146 hp_this_marsh_plans) q5_2 q1_5 ykX8_putMirrored q4_239 q5_0 q5_1 hp_this_marsh_plans.1 rfl ⟨rfl, rfl⟩ ⟨Nat.le_of_ble_eq_true rfl, Nat.le_of_ble_eq_true rfl⟩ rfl hl.1 rfl (Nat.le_of_ble_eq_true rfl) dX12_carryOut_146 ⟨Nat.le_of_ble_eq_true rfl, Nat.le_of_ble_eq_true rfl⟩ (fun r w146 H locs hM hw => ?_)
            obtain ⟨hr, hn_this, hfr⟩ := hw
            rw [hr]
            have hc_this := hfr.keep hc_this (by omega)
            have hp_this_spareMoves := hfr.keep hp_this_spareMoves (by omega)
            have hc_this_marsh := hfr.keep hc_this_marsh (by omega)
            have hp_this_marsh_reeds := hp_this_marsh_reeds.keep hfr (by omega)
            have hp_this_marsh_fleet := hp_this_marsh_fleet.keep hfr (by omega)
            have hp_this_marsh_landings := hp_this_marsh_landings.keep hfr (by omega)
            have hp_this_snapshot := hp_this_snapshot.keep hfr (by omega)
            have hp_this_history := hp_this_history.keep hfr (by omega)
            have hp_this_ways := hp_this_ways.keep hfr (by omega)
            have hp_this_pairing := hp_this_pairing.keep hfr (by omega)
            have hp_this_reader := hp_this_reader.keep hfr (by omega)
            have hp_this_commandText := hp_this_commandText.keep hfr (by omega)
            have hp_this_line := hp_this_line.keep hfr (by omega)
            have hp_this_marsh_plans := hn_this
            have hF := hF.tr (hfr.wide (by omega) (by omega))
            cases hf
            exact hret hM dX12_carryOut_149 rfl ⟨rfl, ⟨hc_this, ⟨hc_this_marsh, hp_this_marsh_reeds, hp_this_marsh_fleet, hp_this_marsh_plans, hp_this_marsh_landings⟩, hp_this_snapshot, hp_this_history, hp_this_ways, hp_this_pairing, hp_this_reader, hp_this_commandText, hp_this_line, hp_this_spareMoves⟩, hF⟩
          · rw [if_neg c31_4] at hf
            by_cases c31_5 : (mm_tS (nI kc).toNatClampNeg) = 6
            · rw [if_pos c31_5] at hf
              rw [c31_5]
              refine lv_tableIn (tgt := 150) hx hb dX12_carryOut_31 (by decide) (by decide) rfl (by decide) ?_
              refine lv_aload_n hx hb dX12_carryOut_150 rfl (lv_at hl 2 rfl) ?_
              refine mm_get hC hM (k := 0) hc_this rfl inAX12 (by decide) q2_16 rfl dX12_carryOut_151 ?_
              refine mm_get hC hM (k := 2) hc_this_marsh rfl inAX6 (by decide) q1_144 rfl dX12_carryOut_154 ?_
              refine lv_iload_n hx hb dX12_carryOut_157 rfl (lv_at hl 1 rfl) ?_
              refine lv_iload hx hb dX12_carryOut_158 (lv_at hl 0 rfl) ?_
              obtain ⟨q160, hq160, hf⟩ := mm_bd hf
              refine mm_Vi (rest := []) hC hM (c_X8_putWayBack l hq160 hp_this_marsh_plans) q5_17 q1_5 ykX8_putWayBack q5_14 q5_15 q5_16 hp_this_marsh_plans.1 rfl ⟨rfl, rfl⟩ ⟨Nat.le_of_ble_eq_true rfl, Nat.le_of_ble_eq_true rfl⟩ rfl hl.1 rfl (Nat.le_of_ble_eq_true rfl) dX12_carryOut_160 ⟨Nat.le_of_ble_eq_true rfl, Nat.le_of_ble_eq_true rfl⟩ (fun r w160 H locs hM hw => ?_)
              obtain ⟨hr, hn_this, hfr⟩ := hw
              rw [hr]
              have hc_this := hfr.keep hc_this (by omega)
              have hp_this_spareMoves := hfr.keep hp_this_spareMoves (by omega)
              have hc_this_marsh := hfr.keep hc_this_marsh (by omega)
              have hp_this_marsh_reeds := hp_this_marsh_reeds.keep hfr (by omega)
              have hp_this_marsh_fleet := hp_this_marsh_fleet.keep hfr (by omega)
              have hp_this_marsh_landings := hp_this_marsh_landings.keep hfr (by omega)
              have hp_this_snapshot := hp_this_snapshot.keep hfr (by omega)
              have hp_this_history := hp_this_history.keep hfr (by omega)
              have hp_this_ways := hp_this_ways.keep hfr (by omega)
              have hp_this_pairing := hp_this_pairing.keep hfr (by omega)
              have hp_this_reader := hp_this_reader.keep hfr (by omega)
              have hp_this_commandText := hp_this_commandText.keep hfr (by omega)
              have hp_this_line := hp_this_line.keep hfr (by omega)
              have hp_this_marsh_plans := hn_this
              have hF := hF.tr (hfr.wide (by omega) (by omega))
              cases hf
              exact hret hM dX12_carryOut_163 rfl ⟨rfl, ⟨hc_this, ⟨hc_this_marsh, hp_this_marsh_reeds, hp_this_marsh_fleet, hp_this_marsh_plans, hp_this_marsh_landings⟩, hp_this_snapshot, hp_this_history, hp_this_ways, hp_this_pairing, hp_this_reader, hp_this_commandText, hp_this_line, hp_this_spareMoves⟩, hF⟩
            · rw [if_neg c31_5] at hf
              by_cases c31_6 : (mm_tS (nI kc).toNatClampNeg) = 7
              · rw [if_pos c31_6] at hf
                rw [c31_6]
                refine lv_tableIn (tgt := 164) hx hb dX12_carryOut_31 (by decide) (by decide) rfl (by decide) ?_
                refine lv_aload_n hx hb dX12_carryOut_164 rfl (lv_at hl 2 rfl) ?_
                refine mm_get hC hM (k := 0) hc_this rfl inAX12 (by decide) q2_16 rfl dX12_carryOut_165 ?_
                refine mm_get hC hM (k := 2) hc_this_marsh rfl inAX6 (by decide) q1_144 rfl dX12_carryOut_168 ?_
                refine lv_iload_n hx hb dX12_carryOut_171 rfl (lv_at hl 1 rfl) ?_
                obtain ⟨q172, hq172, hf⟩ := mm_bd hf
                refine mm_Vi (rest := []) hC hM (c_X8_shorten l hq172 hp_this_marsh_plans) q5_28 q1_5 ykX8_shorten q5_25 q5_26 q5_27 hp_this_marsh_plans.1 rfl ⟨rfl, rfl⟩ ⟨Nat.le_of_ble_eq_true rfl, Nat.le_of_ble_eq_true rfl⟩ rfl hl.1 rfl (Nat.le_of_ble_eq_true rfl) dX12_carryOut_172 ⟨Nat.le_of_ble_eq_true rfl, Nat.le_of_ble_eq_true rfl⟩ (fun r w172 H locs hM hw => ?_)
                obtain ⟨hr, hn_this, hfr⟩ := hw
                rw [hr]
                have hc_this := hfr.keep hc_this (by omega)
                have hp_this_spareMoves := hfr.keep hp_this_spareMoves (by omega)
                have hc_this_marsh := hfr.keep hc_this_marsh (by omega)
                have hp_this_marsh_reeds := hp_this_marsh_reeds.keep hfr (by omega)
                have hp_this_marsh_fleet := hp_this_marsh_fleet.keep hfr (by omega)
                have hp_this_marsh_landings := hp_this_marsh_landings.keep hfr (by omega)
                have hp_this_snapshot := hp_this_snapshot.keep hfr (by omega)
                have hp_this_history := hp_this_history.keep hfr (by omega)
                have hp_this_ways := hp_this_ways.keep hfr (by omega)
                have hp_this_pairing := hp_this_pairing.keep hfr (by omega)
                have hp_this_reader := hp_this_reader.keep hfr (by omega)
                have hp_this_commandText := hp_this_commandText.keep hfr (by omega)
                have hp_this_line := hp_this_line.keep hfr (by omega)
                have hp_this_marsh_plans := hn_this
                have hF := hF.tr (hfr.wide (by omega) (by omega))
                cases hf
                exact hret hM dX12_carryOut_175 rfl ⟨rfl, ⟨hc_this, ⟨hc_this_marsh, hp_this_marsh_reeds, hp_this_marsh_fleet, hp_this_marsh_plans, hp_this_marsh_landings⟩, hp_this_snapshot, hp_this_history, hp_this_ways, hp_this_pairing, hp_this_reader, hp_this_commandText, hp_this_line, hp_this_spareMoves⟩, hF⟩
              · rw [if_neg c31_6] at hf
                by_cases c31_7 : (mm_tS (nI kc).toNatClampNeg) = 8
                · rw [if_pos c31_7] at hf
                  rw [c31_7]
                  refine lv_tableIn (tgt := 176) hx hb dX12_carryOut_31 (by decide) (by decide) rfl (by decide) ?_
                  refine lv_aload_n hx hb dX12_carryOut_176 rfl (lv_at hl 2 rfl) ?_
                  refine mm_get hC hM (k := 0) hc_this rfl inAX12 (by decide) q2_16 rfl dX12_carryOut_177 ?_
                  refine lv_iload_n hx hb dX12_carryOut_180 rfl (lv_at hl 1 rfl) ?_
                  refine lv_iload hx hb dX12_carryOut_181 (lv_at hl 0 rfl) ?_
                  obtain ⟨q183, hq183, hf⟩ := mm_bd hf
                  refine mm_Vi (rest := []) hC hM (c_X6_sailBy l hq183 ⟨hc_this_marsh, hp_this_marsh_reeds, hp_this_marsh_fleet, hp_this_marsh_plans, hp_this_marsh_landings⟩) q5_79 q1_2 ykX6_sailBy q5_76 q5_77 q5_78 hc_this_marsh rfl ⟨rfl, rfl⟩ ⟨Nat.le_of_ble_eq_true rfl, Nat.le_of_ble_eq_true rfl⟩ rfl hl.1 rfl (Nat.le_of_ble_eq_true rfl) dX12_carryOut_183 ⟨Nat.le_of_ble_eq_true rfl, Nat.le_of_ble_eq_true rfl⟩ (fun r w183 H locs hM hw => ?_)
                  obtain ⟨hr, hn_this, hfr⟩ := hw
                  rw [hr]
                  have hc_this := hfr.keep hc_this (by omega)
                  have hp_this_spareMoves := hfr.keep hp_this_spareMoves (by omega)
                  have hp_this_snapshot := hp_this_snapshot.keep hfr (by omega)
                  have hp_this_history := hp_this_history.keep hfr (by omega)
                  have hp_this_ways := hp_this_ways.keep hfr (by omega)
                  have hp_this_pairing := hp_this_pairing.keep hfr (by omega)
                  have hp_this_reader := hp_this_reader.keep hfr (by omega)
                  have hp_this_commandText := hp_this_commandText.keep hfr (by omega)
                  have hp_this_line := hp_this_line.keep hfr (by omega)
                  obtain ⟨hc_this_marsh, hp_this_marsh_reeds, hp_this_marsh_fleet, hp_this_marsh_plans, hp_this_marsh_landings⟩ := hn_this
                  have hF := hF.tr (hfr.wide (by omega) (by omega))
                  cases hf
                  exact hret hM dX12_carryOut_186 rfl ⟨rfl, ⟨hc_this, ⟨hc_this_marsh, hp_this_marsh_reeds, hp_this_marsh_fleet, hp_this_marsh_plans, hp_this_marsh_landings⟩, hp_this_snapshot, hp_this_history, hp_this_ways, hp_this_pairing, hp_this_reader, hp_this_commandText, hp_this_line, hp_this_spareMoves⟩, hF⟩
                · rw [if_neg c31_7] at hf
                  by_cases c31_8 : (mm_tS (nI kc).toNatClampNeg) = 9
                  · rw [if_pos c31_8] at hf
                    rw [c31_8]
                    refine lv_tableIn (tgt := 187) hx hb dX12_carryOut_31 (by decide) (by decide) rfl (by decide) ?_
                    refine lv_aload_n hx hb dX12_carryOut_187 rfl (lv_at hl 3 rfl) ?_
                    refine lv_aload_n hx hb dX12_carryOut_188 rfl (lv_at hl 2 rfl) ?_
                    refine mm_get hC hM (k := 6) hc_this rfl inAX12 (by decide) q2_22 rfl dX12_carryOut_189 ?_
                    refine lv_iload_n hx hb dX12_carryOut_192 rfl (lv_at hl 4 rfl) ?_
                    refine lv_iconst (v := 2) hx hb dX12_carryOut_193 (by decide) ?_
                    obtain ⟨q194, hq194, hf⟩ := mm_bd hf
                    refine mm_Ri (rest := []) hC hM (c_X1_number l hq194 hp_this_commandText hkc) q6_116 q1_30 ykX1_number q6_113 q6_114 q6_115 (va_recvE (i := kc) hC.2.2.1.2.2.2.2.2.2.1 hkc hM.2.2) ⟨rfl, rfl⟩ ⟨Nat.le_of_ble_eq_true rfl, Nat.le_of_ble_eq_true rfl⟩ rfl hl.1 rfl (Nat.le_of_ble_eq_true rfl) dX12_carryOut_194 ⟨Nat.le_of_ble_eq_true rfl, Nat.le_of_ble_eq_true rfl⟩ (fun r w194 H locs hM hw => ?_)
                    obtain ⟨hr, hw⟩ := hw
                    rw [hr]
                    rw [hw] at hM
                    refine lv_istore (lv' := [(5, .int q194), (4, .int q18), (3, .int q7), (0, .ref b), (1, .ref (G.2 (20 + kc))), (2, .int x2)]) hx hb dX12_carryOut_197 hl (by decide) rfl (fun ls hl => ?_)
                    refine lv_aload_n hx hb dX12_carryOut_199 rfl (lv_at hl 4 rfl) ?_
                    refine lv_aload_n hx hb dX12_carryOut_200 rfl (lv_at hl 3 rfl) ?_
                    refine mm_get hC hM (k := 6) hc_this rfl inAX12 (by decide) q2_22 rfl dX12_carryOut_201 ?_
                    refine lv_iload_n hx hb dX12_carryOut_204 rfl (lv_at hl 5 rfl) ?_
                    refine lv_iconst (v := 3) hx hb dX12_carryOut_205 (by decide) ?_
                    obtain ⟨q206, hq206, hf⟩ := mm_bd hf
                    refine mm_Ri (rest := []) hC hM (c_X1_number l hq206 hp_this_commandText hkc) q6_116 q1_30 ykX1_number q6_113 q6_114 q6_115 (va_recvE (i := kc) hC.2.2.1.2.2.2.2.2.2.1 hkc hM.2.2) ⟨rfl, rfl⟩ ⟨Nat.le_of_ble_eq_true rfl, Nat.le_of_ble_eq_true rfl⟩ rfl hl.1 rfl (Nat.le_of_ble_eq_true rfl) dX12_carryOut_206 ⟨Nat.le_of_ble_eq_true rfl, Nat.le_of_ble_eq_true rfl⟩ (fun r w206 H locs hM hw => ?_)
                    obtain ⟨hr, hw⟩ := hw
                    rw [hr]
                    rw [hw] at hM
                    refine lv_istore (lv' := [(6, .int q206), (5, .int q194), (4, .int q18), (3, .int q7), (0, .ref b), (1, .ref (G.2 (20 + kc))), (2, .int x2)]) hx hb dX12_carryOut_209 hl (by decide) rfl (fun ls hl => ?_)
                    refine lv_aload_n hx hb dX12_carryOut_211 rfl (lv_at hl 4 rfl) ?_
                    refine mm_get hC hM (k := 0) hc_this rfl inAX12 (by decide) q2_16 rfl dX12_carryOut_212 ?_
                    refine lv_aload_n hx hb dX12_carryOut_215 rfl (lv_at hl 4 rfl) ?_
                    refine mm_get hC hM (k := 3) hc_this rfl inAX12 (by decide) q2_19 rfl dX12_carryOut_216 ?_
                    refine lv_iload_n hx hb dX12_carryOut_219 rfl (lv_at hl 3 rfl) ?_
                    refine lv_iload hx hb dX12_carryOut_220 (lv_at hl 2 rfl) ?_
                    refine lv_iload hx hb dX12_carryOut_222 (lv_at hl 1 rfl) ?_
                    refine lv_iload hx hb dX12_carryOut_224 (lv_at hl 0 rfl) ?_
                    obtain ⟨q226, hq226, hf⟩ := mm_bd hf
                    refine mm_Vi (rest := []) hC hM (c_X6_layWay l hq226 ⟨hc_this_marsh, hp_this_marsh_reeds, hp_this_marsh_fleet, hp_this_marsh_plans, hp_this_marsh_landings⟩ hp_this_ways (by omega)) q5_163 q1_2 ykX6_layWay q5_160 q5_161 q5_162 hc_this_marsh rfl ⟨rfl, rfl⟩ ⟨Nat.le_of_ble_eq_true rfl, Nat.le_of_ble_eq_true rfl⟩ rfl hl.1 rfl (Nat.le_of_ble_eq_true rfl) dX12_carryOut_226 ⟨Nat.le_of_ble_eq_true rfl, Nat.le_of_ble_eq_true rfl⟩ (fun r w226 H locs hM hw => ?_)
                    obtain ⟨hr, hn_this, hn_p1, hfr⟩ := hw
                    rw [hr]
                    have hc_this := hfr.keep hc_this (by omega) (by omega)
                    have hp_this_spareMoves := hfr.keep hp_this_spareMoves (by omega) (by omega)
                    have hp_this_snapshot := hp_this_snapshot.keep2 hfr (by omega) (by omega)
                    have hp_this_history := hp_this_history.keep2 hfr (by omega) (by omega)
                    have hp_this_pairing := hp_this_pairing.keep2 hfr (by omega) (by omega)
                    have hp_this_reader := hp_this_reader.keep2 hfr (by omega) (by omega)
                    have hp_this_commandText := hp_this_commandText.keep2 hfr (by omega) (by omega)
                    have hp_this_line := hp_this_line.keep2 hfr (by omega) (by omega)
                    obtain ⟨hc_this_marsh, hp_this_marsh_reeds, hp_this_marsh_fleet, hp_this_marsh_plans, hp_this_marsh_landings⟩ := hn_this
                    have hp_this_ways := hn_p1
                    have hF := hF.tr (hfr.one (by omega) (by omega) (by omega) (by omega))
                    cases hf
                    exact hret hM dX12_carryOut_229 rfl ⟨rfl, ⟨hc_this, ⟨hc_this_marsh, hp_this_marsh_reeds, hp_this_marsh_fleet, hp_this_marsh_plans, hp_this_marsh_landings⟩, hp_this_snapshot, hp_this_history, hp_this_ways, hp_this_pairing, hp_this_reader, hp_this_commandText, hp_this_line, hp_this_spareMoves⟩, hF⟩
                  · rw [if_neg c31_8] at hf
                    by_cases c31_9 : (mm_tS (nI kc).toNatClampNeg) = 10
                    · rw [if_pos c31_9] at hf
                      rw [c31_9]
                      refine lv_tableIn (tgt := 230) hx hb dX12_carryOut_31 (by decide) (by decide) rfl (by decide) ?_
                      refine lv_aload_n hx hb dX12_carryOut_230 rfl (lv_at hl 2 rfl) ?_
                      refine mm_get hC hM (k := 0) hc_this rfl inAX12 (by decide) q2_16 rfl dX12_carryOut_231 ?_
                      refine mm_get hC hM (k := 3) hc_this_marsh rfl inAX6 (by decide) q1_146 rfl dX12_carryOut_234 ?_
                      refine lv_iload_n hx hb dX12_carryOut_237 rfl (lv_at hl 1 rfl) ?_
                      refine lv_iload hx hb dX12_carryOut_238 (lv_at hl 0 rfl) ?_
                      obtain ⟨q240, hq240, hf⟩ := mm_bd hf
                      refine mm_Vi (rest := []) hC hM (c_X5_build l hq240 hp_this_marsh_landings) q5_184 q1_6 ykX5_build q5_181 q5_182 q5_183 hp_this_marsh_landings.1 rfl ⟨rfl, rfl⟩ ⟨Nat.le_of_ble_eq_true rfl, Nat.le_of_ble_eq_true rfl⟩ rfl hl.1 rfl (Nat.le_of_ble_eq_true rfl) dX12_carryOut_240 ⟨Nat.le_of_ble_eq_true rfl, Nat.le_of_ble_eq_true rfl⟩ (fun r w240 H locs hM hw => ?_)
                      obtain ⟨hr, hn_this, hfr⟩ := hw
                      rw [hr]
                      have hc_this := hfr.keep hc_this (by omega)
                      have hp_this_spareMoves := hfr.keep hp_this_spareMoves (by omega)
                      have hc_this_marsh := hfr.keep hc_this_marsh (by omega)
                      have hp_this_marsh_reeds := hp_this_marsh_reeds.keep hfr (by omega)
                      have hp_this_marsh_fleet := hp_this_marsh_fleet.keep hfr (by omega)
                      have hp_this_marsh_plans := hp_this_marsh_plans.keep hfr (by omega)
                      have hp_this_snapshot := hp_this_snapshot.keep hfr (by omega)
                      have hp_this_history := hp_this_history.keep hfr (by omega)
                      have hp_this_ways := hp_this_ways.keep hfr (by omega)
                      have hp_this_pairing := hp_this_pairing.keep hfr (by omega)
                      have hp_this_reader := hp_this_reader.keep hfr (by omega)
                      have hp_this_commandText := hp_this_commandText.keep hfr (by omega)
                      have hp_this_line := hp_this_line.keep hfr (by omega)
                      have hp_this_marsh_landings := hn_this
                      have hF := hF.tr (hfr.wide (by omega) (by omega))
                      cases hf
                      exact hret hM dX12_carryOut_243 rfl ⟨rfl, ⟨hc_this, ⟨hc_this_marsh, hp_this_marsh_reeds, hp_this_marsh_fleet, hp_this_marsh_plans, hp_this_marsh_landings⟩, hp_this_snapshot, hp_this_history, hp_this_ways, hp_this_pairing, hp_this_reader, hp_this_commandText, hp_this_line, hp_this_spareMoves⟩, hF⟩
                    · rw [if_neg c31_9] at hf
                      by_cases c31_10 : (mm_tS (nI kc).toNatClampNeg) = 11
                      · rw [if_pos c31_10] at hf
                        rw [c31_10]
                        refine lv_tableIn (tgt := 244) hx hb dX12_carryOut_31 (by decide) (by decide) rfl (by decide) ?_
                        refine lv_aload_n hx hb dX12_carryOut_244 rfl (lv_at hl 2 rfl) ?_
                        refine mm_get hC hM (k := 0) hc_this rfl inAX12 (by decide) q2_16 rfl dX12_carryOut_245 ?_
                        refine lv_iload_n hx hb dX12_carryOut_248 rfl (lv_at hl 1 rfl) ?_
                        obtain ⟨q249, hq249, hf⟩ := mm_bd hf
                        refine mm_Vi (rest := []) hC hM (c_X6_moveFog l hq249 ⟨hc_this_marsh, hp_this_marsh_reeds, hp_this_marsh_fleet, hp_this_marsh_plans, hp_this_marsh_landings⟩) q4_109 q1_2 ykX6_moveFog q4_106 q4_107 q4_108 hc_this_marsh rfl ⟨rfl, rfl⟩ ⟨Nat.le_of_ble_eq_true rfl, Nat.le_of_ble_eq_true rfl⟩ rfl hl.1 rfl (Nat.le_of_ble_eq_true rfl) dX12_carryOut_249 ⟨Nat.le_of_ble_eq_true rfl, Nat.le_of_ble_eq_true rfl⟩ (fun r w249 H locs hM hw => ?_)
                        obtain ⟨hr, hn_this, hfr⟩ := hw
                        rw [hr]
                        have hc_this := hfr.keep hc_this (by omega)
                        have hp_this_spareMoves := hfr.keep hp_this_spareMoves (by omega)
                        have hp_this_snapshot := hp_this_snapshot.keep hfr (by omega)
                        have hp_this_history := hp_this_history.keep hfr (by omega)
                        have hp_this_ways := hp_this_ways.keep hfr (by omega)
                        have hp_this_pairing := hp_this_pairing.keep hfr (by omega)
                        have hp_this_reader := hp_this_reader.keep hfr (by omega)
                        have hp_this_commandText := hp_this_commandText.keep hfr (by omega)
                        have hp_this_line := hp_this_line.keep hfr (by omega)
                        obtain ⟨hc_this_marsh, hp_this_marsh_reeds, hp_this_marsh_fleet, hp_this_marsh_plans, hp_this_marsh_landings⟩ := hn_this
                        have hF := hF.tr (hfr.wide (by omega) (by omega))
                        cases hf
                        exact hret hM dX12_carryOut_252 rfl ⟨rfl, ⟨hc_this, ⟨hc_this_marsh, hp_this_marsh_reeds, hp_this_marsh_fleet, hp_this_marsh_plans, hp_this_marsh_landings⟩, hp_this_snapshot, hp_this_history, hp_this_ways, hp_this_pairing, hp_this_reader, hp_this_commandText, hp_this_line, hp_this_spareMoves⟩, hF⟩
                      · rw [if_neg c31_10] at hf
                        refine lv_tableOut (tgt := 253) hx hb dX12_carryOut_31 (by have n0 := mm_ne c31_0 (k := 1) rfl; have n1 := mm_ne c31_1 (k := 2) rfl; have n2 := mm_ne c31_2 (k := 3) rfl; have n3 := mm_ne c31_3 (k := 4) rfl; have n4 := mm_ne c31_4 (k := 5) rfl; have n5 := mm_ne c31_5 (k := 6) rfl; have n6 := mm_ne c31_6 (k := 7) rfl; have n7 := mm_ne c31_7 (k := 8) rfl; have n8 := mm_ne c31_8 (k := 9) rfl; have n9 := mm_ne c31_9 (k := 10) rfl; have n10 := mm_ne c31_10 (k := 11) rfl; omega) (by decide) ?_
                        refine lv_bipush (v := (-5)) hx hb dX12_carryOut_253 (by decide) ?_
                        cases hf
                        exact hret hM dX12_carryOut_255 rfl ⟨rfl, ⟨hc_this, ⟨hc_this_marsh, hp_this_marsh_reeds, hp_this_marsh_fleet, hp_this_marsh_plans, hp_this_marsh_landings⟩, hp_this_snapshot, hp_this_history, hp_this_ways, hp_this_pairing, hp_this_reader, hp_this_commandText, hp_this_line, hp_this_spareMoves⟩, hF⟩
def f_X12_carryOutAll_L2 (K : Nat) (reader_kinds : Nat → Int32) (reader_starts : Nat → Int32) (reader_count : Int32) (commandText_signs : Nat → Int32) (commandText_length : Int32) : Nat → (Int32) → (Nat → Int32) → (Int32) → (Int32) → (Nat → Int32) → (Nat → Int32) → (Nat → Int32) → (Int32) → (Int32) → (Int32) → (Int32) → (Nat → Int32) → (Nat → Int32) → (Nat → Int32) → (Int32) → (Int32) → (Nat → Int32) → (Nat → Int32) → (Nat → Int32) → Option (Int32 × (Nat → Int32) × Int32 × Int32 × (Nat → Int32) × (Nat → Int32) × (Nat → Int32) × Int32 × Int32 × Int32 × Int32 × (Nat → Int32) × (Nat → Int32) × (Nat → Int32) × Int32 × Int32 × (Nat → Int32) × (Nat → Int32) × (Nat → Int32))
  | 0, _, _, _, _, _, _, _, _, _, _, _, _, _, _, _, _, _, _, _ => none
  | n + 1, x1, marsh_reeds_states, marsh_reeds_count, marsh_reeds_broken, marsh_fleet_numbers, marsh_fleet_cells, marsh_fleet_fares, marsh_fleet_count, marsh_fleet_nextNumber, marsh_fleet_total, marsh_fleet_meetings, marsh_plans_moves, marsh_plans_lengths, marsh_landings_cells, marsh_landings_count, marsh_fogSide, ways_tolls, ways_queue, ways_found => if reader_count ≤ x1 then some ((-1), marsh_reeds_states, marsh_reeds_count, marsh_reeds_broken, marsh_fleet_numbers, marsh_fleet_cells, marsh_fleet_fares, marsh_fleet_count, marsh_fleet_nextNumber, marsh_fleet_total, marsh_fleet_meetings, marsh_plans_moves, marsh_plans_lengths, marsh_landings_cells, marsh_landings_count, marsh_fogSide, ways_tolls, ways_queue, ways_found) else mm_g (mm_ck x1 60) (mm_g (mm_ck (reader_kinds x1.toNatClampNeg) 11) (mm_g (mm_ck x1 60) ((f_X12_carryOut K marsh_reeds_states marsh_reeds_count marsh_reeds_broken marsh_fleet_numbers marsh_fleet_cells marsh_fleet_fares marsh_fleet_count marsh_fleet_nextNumber marsh_fleet_total marsh_fleet_meetings marsh_plans_moves marsh_plans_lengths marsh_landings_cells marsh_landings_count marsh_fogSide ways_tolls ways_queue ways_found commandText_signs commandText_length (reader_starts x1.toNatClampNeg) (reader_kinds x1.toNatClampNeg).toNatClampNeg).bind fun q36 => if 0 ≤ q36.1 then f_X12_carryOutAll_L2 K reader_kinds reader_starts reader_count commandText_signs commandText_length n (x1 + 1) q36.2.1 q36.2.2.1 q36.2.2.2.1 q36.2.2.2.2.1 q36.2.2.2.2.2.1 q36.2.2.2.2.2.2.1 q36.2.2.2.2.2.2.2.1 q36.2.2.2.2.2.2.2.2.1 q36.2.2.2.2.2.2.2.2.2.1 q36.2.2.2.2.2.2.2.2.2.2.1 q36.2.2.2.2.2.2.2.2.2.2.2.1 q36.2.2.2.2.2.2.2.2.2.2.2.2.1 q36.2.2.2.2.2.2.2.2.2.2.2.2.2.1 q36.2.2.2.2.2.2.2.2.2.2.2.2.2.2.1 q36.2.2.2.2.2.2.2.2.2.2.2.2.2.2.2.1 q36.2.2.2.2.2.2.2.2.2.2.2.2.2.2.2.2.1 q36.2.2.2.2.2.2.2.2.2.2.2.2.2.2.2.2.2.1 q36.2.2.2.2.2.2.2.2.2.2.2.2.2.2.2.2.2.2 else some (x1, q36.2.1, q36.2.2.1, q36.2.2.2.1, q36.2.2.2.2.1, q36.2.2.2.2.2.1, q36.2.2.2.2.2.2.1, q36.2.2.2.2.2.2.2.1, q36.2.2.2.2.2.2.2.2.1, q36.2.2.2.2.2.2.2.2.2.1, q36.2.2.2.2.2.2.2.2.2.2.1, q36.2.2.2.2.2.2.2.2.2.2.2.1, q36.2.2.2.2.2.2.2.2.2.2.2.2.1, q36.2.2.2.2.2.2.2.2.2.2.2.2.2.1, q36.2.2.2.2.2.2.2.2.2.2.2.2.2.2.1, q36.2.2.2.2.2.2.2.2.2.2.2.2.2.2.2.1, q36.2.2.2.2.2.2.2.2.2.2.2.2.2.2.2.2.1, q36.2.2.2.2.2.2.2.2.2.2.2.2.2.2.2.2.2.1, q36.2.2.2.2.2.2.2.2.2.2.2.2.2.2.2.2.2.2))))
def f_X12_carryOutAll (K : Nat) (marsh_reeds_states : Nat → Int32) (marsh_reeds_count : Int32) (marsh_reeds_broken : Int32) (marsh_fleet_numbers : Nat → Int32) (marsh_fleet_cells : Nat → Int32) (marsh_fleet_fares : Nat → Int32) (marsh_fleet_count : Int32) (marsh_fleet_nextNumber : Int32) (marsh_fleet_total : Int32) (marsh_fleet_meetings : Int32) (marsh_plans_moves : Nat → Int32) (marsh_plans_lengths : Nat → Int32) (marsh_landings_cells : Nat → Int32) (marsh_landings_count : Int32) (marsh_fogSide : Int32) (ways_tolls : Nat → Int32) (ways_queue : Nat → Int32) (ways_found : Nat → Int32) (reader_kinds : Nat → Int32) (reader_starts : Nat → Int32) (reader_count : Int32) (commandText_signs : Nat → Int32) (commandText_length : Int32) : Option (Int32 × (Nat → Int32) × Int32 × Int32 × (Nat → Int32) × (Nat → Int32) × (Nat → Int32) × Int32 × Int32 × Int32 × Int32 × (Nat → Int32) × (Nat → Int32) × (Nat → Int32) × Int32 × Int32 × (Nat → Int32) × (Nat → Int32) × (Nat → Int32)) := f_X12_carryOutAll_L2 K reader_kinds reader_starts reader_count commandText_signs commandText_length K 0 marsh_reeds_states marsh_reeds_count marsh_reeds_broken marsh_fleet_numbers marsh_fleet_cells marsh_fleet_fares marsh_fleet_count marsh_fleet_nextNumber marsh_fleet_total marsh_fleet_meetings marsh_plans_moves marsh_plans_lengths marsh_landings_cells marsh_landings_count marsh_fogSide ways_tolls ways_queue ways_found
set_option maxHeartbeats 4000000 in
set_option maxRecDepth 100000 in
theorem c_X12_carryOutAll (l : Launch) {G : mm_G} {K : Nat} {w : va_W} {sz : Nat} {b : Nat} {marsh_reeds_states : Nat → Int32} {marsh_reeds_count : Int32} {marsh_reeds_broken : Int32} {marsh_fleet_numbers : Nat → Int32} {marsh_fleet_cells : Nat → Int32} {marsh_fleet_fares : Nat → Int32} {marsh_fleet_count : Int32} {marsh_fleet_nextNumber : Int32} {marsh_fleet_total : Int32} {marsh_fleet_removedFares : Int32} {marsh_fleet_meetings : Int32} {marsh_plans_moves : Nat → Int32} {marsh_plans_lengths : Nat → Int32} {marsh_landings_cells : Nat → Int32} {marsh_landings_count : Int32} {marsh_fogSide : Int32} {snapshot_reeds_states : Nat → Int32} {snapshot_reeds_count : Int32} {snapshot_reeds_broken : Int32} {snapshot_fleet_numbers : Nat → Int32} {snapshot_fleet_cells : Nat → Int32} {snapshot_fleet_fares : Nat → Int32} {snapshot_fleet_count : Int32} {snapshot_fleet_nextNumber : Int32} {snapshot_fleet_total : Int32} {snapshot_fleet_removedFares : Int32} {snapshot_fleet_meetings : Int32} {snapshot_plans_moves : Nat → Int32} {snapshot_plans_lengths : Nat → Int32} {snapshot_landings_cells : Nat → Int32} {snapshot_landings_count : Int32} {snapshot_fogSide : Int32} {history_slots : Nat → mm_MV} {history_free : Int32} {history_count : Int32} {ways_tolls : Nat → Int32} {ways_queue : Nat → Int32} {ways_heap : Nat → Int32} {ways_heapSize : Int32} {ways_found : Nat → Int32} {ways_improved : Nat → Int32} {pairing_costs : Nat → Int32} {pairing_best : Nat → Int32} {reader_kinds : Nat → Int32} {reader_starts : Nat → Int32} {reader_count : Int32} {commandText_signs : Nat → Int32} {commandText_length : Int32} {line_signs : Nat → Int32} {line_length : Int32} {spareMoves : Nat → Int32} {snapshotTaken : Int32} {lastErrorPosition : Int32} {lastFailedCommand : Int32} {X : Int32 × (Nat → Int32) × Int32 × Int32 × (Nat → Int32) × (Nat → Int32) × (Nat → Int32) × Int32 × Int32 × Int32 × Int32 × (Nat → Int32) × (Nat → Int32) × (Nat → Int32) × Int32 × Int32 × (Nat → Int32) × (Nat → Int32) × (Nat → Int32)} (hf : f_X12_carryOutAll K marsh_reeds_states marsh_reeds_count marsh_reeds_broken marsh_fleet_numbers marsh_fleet_cells marsh_fleet_fares marsh_fleet_count marsh_fleet_nextNumber marsh_fleet_total marsh_fleet_meetings marsh_plans_moves marsh_plans_lengths marsh_landings_cells marsh_landings_count marsh_fogSide ways_tolls ways_queue ways_found reader_kinds reader_starts reader_count commandText_signs commandText_length = some X) (hp_this : At12 G w b marsh_reeds_states marsh_reeds_count marsh_reeds_broken marsh_fleet_numbers marsh_fleet_cells marsh_fleet_fares marsh_fleet_count marsh_fleet_nextNumber marsh_fleet_total marsh_fleet_removedFares marsh_fleet_meetings marsh_plans_moves marsh_plans_lengths marsh_landings_cells marsh_landings_count marsh_fogSide snapshot_reeds_states snapshot_reeds_count snapshot_reeds_broken snapshot_fleet_numbers snapshot_fleet_cells snapshot_fleet_fares snapshot_fleet_count snapshot_fleet_nextNumber snapshot_fleet_total snapshot_fleet_removedFares snapshot_fleet_meetings snapshot_plans_moves snapshot_plans_lengths snapshot_landings_cells snapshot_landings_count snapshot_fogSide history_slots history_free history_count ways_tolls ways_queue ways_heap ways_heapSize ways_found ways_improved pairing_costs pairing_best reader_kinds reader_starts reader_count commandText_signs commandText_length line_signs line_length spareMoves snapshotTaken lastErrorPosition lastFailedCommand) : Met l yX12_carryOutAll (Cond.code yX12_carryOutAll cX12_carryOutAll 2 (some .int) :: gAll) ({ frames := 6, cells := 0, slots := 0, locals := 173 }) (va_Pc [.ref b] (mm_Pre G w sz)) (mm_Qi G w sz (fun r w' => r = X.1 ∧ At12 G w' b X.2.1 X.2.2.1 X.2.2.2.1 X.2.2.2.2.1 X.2.2.2.2.2.1 X.2.2.2.2.2.2.1 X.2.2.2.2.2.2.2.1 X.2.2.2.2.2.2.2.2.1 X.2.2.2.2.2.2.2.2.2.1 marsh_fleet_removedFares X.2.2.2.2.2.2.2.2.2.2.1 X.2.2.2.2.2.2.2.2.2.2.2.1 X.2.2.2.2.2.2.2.2.2.2.2.2.1 X.2.2.2.2.2.2.2.2.2.2.2.2.2.1 X.2.2.2.2.2.2.2.2.2.2.2.2.2.2.1 X.2.2.2.2.2.2.2.2.2.2.2.2.2.2.2.1 snapshot_reeds_states snapshot_reeds_count snapshot_reeds_broken snapshot_fleet_numbers snapshot_fleet_cells snapshot_fleet_fares snapshot_fleet_count snapshot_fleet_nextNumber snapshot_fleet_total snapshot_fleet_removedFares snapshot_fleet_meetings snapshot_plans_moves snapshot_plans_lengths snapshot_landings_cells snapshot_landings_count snapshot_fogSide history_slots history_free history_count X.2.2.2.2.2.2.2.2.2.2.2.2.2.2.2.2.1 X.2.2.2.2.2.2.2.2.2.2.2.2.2.2.2.2.2.1 ways_heap ways_heapSize X.2.2.2.2.2.2.2.2.2.2.2.2.2.2.2.2.2.2 ways_improved pairing_costs pairing_best reader_kinds reader_starts reader_count commandText_signs commandText_length line_signs line_length spareMoves snapshotTaken lastErrorPosition lastFailedCommand ∧ mm_fr w w' b (b + 152))) 0 0 (va_A w sz) := by
  refine mm_headI [.ref b] (by decide +kernel) rfl (Nat.le_of_ble_eq_true rfl) ?_
  intro p e s m args below meth c A Q hsz hC hM hret ls hl
  have hx := hC.1.1
  have hb := hC.1.2.1
  have hl : lv_has ls 2 [(0, .ref b)] := hl
  have hF : mm_fr w w b (b + 152) := mm_fr.rf
  rw [f_X12_carryOutAll] at hf
  refine lv_iconst (v := 0) hx hb dX12_carryOutAll_0 (by decide) ?_
  refine lv_istore_n (lv' := [(1, .int 0), (0, .ref b)]) hx hb dX12_carryOutAll_1 rfl hl (by decide) rfl (fun ls hl => ?_)
  have L2 : ∀ (n : Nat) (L2_x1 : Int32) (L2_marsh_reeds_states : Nat → Int32) (L2_marsh_reeds_count : Int32) (L2_marsh_reeds_broken : Int32) (L2_marsh_fleet_numbers : Nat → Int32) (L2_marsh_fleet_cells : Nat → Int32) (L2_marsh_fleet_fares : Nat → Int32) (L2_marsh_fleet_count : Int32) (L2_marsh_fleet_nextNumber : Int32) (L2_marsh_fleet_total : Int32) (L2_marsh_fleet_meetings : Int32) (L2_marsh_plans_moves : Nat → Int32) (L2_marsh_plans_lengths : Nat → Int32) (L2_marsh_landings_cells : Nat → Int32) (L2_marsh_landings_count : Int32) (L2_marsh_fogSide : Int32) (L2_ways_tolls : Nat → Int32) (L2_ways_queue : Nat → Int32) (L2_ways_found : Nat → Int32), f_X12_carryOutAll_L2 K reader_kinds reader_starts reader_count commandText_signs commandText_length n L2_x1 L2_marsh_reeds_states L2_marsh_reeds_count L2_marsh_reeds_broken L2_marsh_fleet_numbers L2_marsh_fleet_cells L2_marsh_fleet_fares L2_marsh_fleet_count L2_marsh_fleet_nextNumber L2_marsh_fleet_total L2_marsh_fleet_meetings L2_marsh_plans_moves L2_marsh_plans_lengths L2_marsh_landings_cells L2_marsh_landings_count L2_marsh_fogSide L2_ways_tolls L2_ways_queue L2_ways_found = some X → ∀ (L2_w : va_W) (H : Heap) (locs : List Loc), mm_S G A s.heap L2_w H locs → At12 G L2_w b L2_marsh_reeds_states L2_marsh_reeds_count L2_marsh_reeds_broken L2_marsh_fleet_numbers L2_marsh_fleet_cells L2_marsh_fleet_fares L2_marsh_fleet_count L2_marsh_fleet_nextNumber L2_marsh_fleet_total marsh_fleet_removedFares L2_marsh_fleet_meetings L2_marsh_plans_moves L2_marsh_plans_lengths L2_marsh_landings_cells L2_marsh_landings_count L2_marsh_fogSide snapshot_reeds_states snapshot_reeds_count snapshot_reeds_broken snapshot_fleet_numbers snapshot_fleet_cells snapshot_fleet_fares snapshot_fleet_count snapshot_fleet_nextNumber snapshot_fleet_total snapshot_fleet_removedFares snapshot_fleet_meetings snapshot_plans_moves snapshot_plans_lengths snapshot_landings_cells snapshot_landings_count snapshot_fogSide history_slots history_free history_count L2_ways_tolls L2_ways_queue ways_heap ways_heapSize L2_ways_found ways_improved pairing_costs pairing_best reader_kinds reader_starts reader_count commandText_signs commandText_length line_signs line_length spareMoves snapshotTaken lastErrorPosition lastFailedCommand → mm_fr w L2_w b (b + 152) → ∀ (ls : Array Slot), lv_has ls 2 [(0, .ref b), (1, .int L2_x1)] → W p l e ({ frames := 6, cells := 0, slots := 0, locals := 173 } : Room) s m args below meth c H locs 0 0 Q (F0 m 2 ls []) := by
    intro n
    induction n with
    | zero => intro L2_x1 L2_marsh_reeds_states L2_marsh_reeds_count L2_marsh_reeds_broken L2_marsh_fleet_numbers L2_marsh_fleet_cells L2_marsh_fleet_fares L2_marsh_fleet_count L2_marsh_fleet_nextNumber L2_marsh_fleet_total L2_marsh_fleet_meetings L2_marsh_plans_moves L2_marsh_plans_lengths L2_marsh_landings_cells L2_marsh_landings_count L2_marsh_fogSide L2_ways_tolls L2_ways_queue L2_ways_found hf; cases hf
    | succ n ih =>
      intro L2_x1 L2_marsh_reeds_states L2_marsh_reeds_count L2_marsh_reeds_broken L2_marsh_fleet_numbers L2_marsh_fleet_cells L2_marsh_fleet_fares L2_marsh_fleet_count L2_marsh_fleet_nextNumber L2_marsh_fleet_total L2_marsh_fleet_meetings L2_marsh_plans_moves L2_marsh_plans_lengths L2_marsh_landings_cells L2_marsh_landings_count L2_marsh_fogSide L2_ways_tolls L2_ways_queue L2_ways_found hf L2_w H locs hM hp_this hF ls hl
      rw [f_X12_carryOutAll_L2] at hf
      refine lv_iload_n hx hb dX12_carryOutAll_2 rfl (lv_at hl 1 rfl) ?_
      refine lv_aload_n hx hb dX12_carryOutAll_3 rfl (lv_at hl 0 rfl) ?_
      refine mm_get hC hM (k := 5) hp_this.1 rfl inAX12 (by decide) q2_21 rfl dX12_carryOutAll_4 ?_
      refine mm_get hC hM (k := 2) (hp_this.2.2.2.2.2.2.1).1 rfl inAX2 (by decide) q1_232 rfl dX12_carryOutAll_7 ?_
      refine lv_icmp_ge (tgt := 50) hx hb dX12_carryOutAll_10 (by decide) (fun hcd => ?_) (fun hcd => ?_)
      · rw [if_pos hcd] at hf
        refine lv_iconst (v := (-1)) hx hb dX12_carryOutAll_50 (by decide) ?_
        cases hf
        exact hret hM dX12_carryOutAll_51 rfl ⟨rfl, hp_this, hF⟩
      · rw [if_neg hcd] at hf
        refine lv_aload_n hx hb dX12_carryOutAll_13 rfl (lv_at hl 0 rfl) ?_
        refine va_gets hx hb hC.2.2.1.2.2.2.2.1.1 hM.2.2 hC.1.2.2.2.1 (hC.1.2.2.2.2 _ q6_108) (fun _ h => h) dX12_carryOutAll_14 ?_
        refine lv_aload_n hx hb dX12_carryOutAll_17 rfl (lv_at hl 0 rfl) ?_
        refine mm_get hC hM (k := 5) hp_this.1 rfl inAX12 (by decide) q2_21 rfl dX12_carryOutAll_18 ?_
        refine mm_get hC hM (k := 0) (hp_this.2.2.2.2.2.2.1).1 rfl inAX2 (by decide) q1_228 rfl dX12_carryOutAll_21 ?_
        refine lv_iload_n hx hb dX12_carryOutAll_24 rfl (lv_at hl 1 rfl) ?_
        obtain ⟨hg25, hf⟩ := mm_gd hf
        refine mm_iald hC hM ((hp_this.2.2.2.2.2.2.1).2.1) hg25 dX12_carryOutAll_25 ?_
        obtain ⟨hg26, hf⟩ := mm_gd hf
        refine mm_taald hx hb hC.2.2.1.2.2.2.2.1.2 hM.2.2 hg26 rfl dX12_carryOutAll_26 ?_
        refine lv_aload_n hx hb dX12_carryOutAll_27 rfl (lv_at hl 0 rfl) ?_
        refine mm_get hC hM (k := 5) hp_this.1 rfl inAX12 (by decide) q2_21 rfl dX12_carryOutAll_28 ?_
        refine mm_get hC hM (k := 1) (hp_this.2.2.2.2.2.2.1).1 rfl inAX2 (by decide) q1_230 rfl dX12_carryOutAll_31 ?_
        refine lv_iload_n hx hb dX12_carryOutAll_34 rfl (lv_at hl 1 rfl) ?_
        obtain ⟨hg35, hf⟩ := mm_gd hf
        refine mm_iald hC hM ((hp_this.2.2.2.2.2.2.1).2.2) hg35 dX12_carryOutAll_35 ?_
        obtain ⟨q36, hq36, hf⟩ := mm_bd hf
        refine mm_Vi (rest := []) hC hM (c_X12_carryOut l hq36 hp_this (mm_klt hg26)) q6_112 q1_1 ykX12_carryOut q6_109 q6_111 qp_d1c06de7 hp_this.1 rfl ⟨rfl, rfl⟩ ⟨Nat.le_of_ble_eq_true rfl, Nat.le_of_ble_eq_true rfl⟩ rfl hl.1 rfl (Nat.le_of_ble_eq_true rfl) dX12_carryOutAll_36 ⟨Nat.le_of_ble_eq_true rfl, Nat.le_of_ble_eq_true rfl⟩ (fun r w36 H locs hM hw => ?_)
        obtain ⟨hr, hn_this, hfr⟩ := hw
        rw [hr]
        have hp_this := hn_this
        have hF := hF.tr (hfr.wide (by omega) (by omega))
        refine lv_if_ge (tgt := 44) hx hb dX12_carryOutAll_39 (by decide) (fun hcd => ?_) (fun hcd => ?_)
        · rw [if_pos hcd] at hf
          refine lv_iinc (v := (L2_x1 + 1)) (lv' := [(1, .int (L2_x1 + 1)), (0, .ref b)]) hx hb dX12_carryOutAll_44 hl (k := 1) rfl rfl (by decide) rfl (fun ls hl => ?_)
          refine lv_goto (tgt := 2) hx hb dX12_carryOutAll_47 (by decide) ?_
          exact ih _ _ _ _ _ _ _ _ _ _ _ _ _ _ _ _ _ _ _ hf _ _ _ hM hp_this hF _ (lv_sub hl [1, 0] rfl)
        · rw [if_neg hcd] at hf
          refine lv_iload_n hx hb dX12_carryOutAll_42 rfl (lv_at hl 1 rfl) ?_
          cases hf
          exact hret hM dX12_carryOutAll_43 rfl ⟨rfl, hp_this, hF⟩
  exact L2 K _ _ _ _ _ _ _ _ _ _ _ _ _ _ _ _ _ _ _ hf _ _ _ hM hp_this hF _ (lv_sub hl [1, 0] rfl)
def f_X12_run (K : Nat) (marsh_reeds_states : Nat → Int32) (marsh_reeds_count : Int32) (marsh_reeds_broken : Int32) (marsh_fleet_numbers : Nat → Int32) (marsh_fleet_cells : Nat → Int32) (marsh_fleet_fares : Nat → Int32) (marsh_fleet_count : Int32) (marsh_fleet_nextNumber : Int32) (marsh_fleet_total : Int32) (marsh_fleet_removedFares : Int32) (marsh_fleet_meetings : Int32) (marsh_plans_moves : Nat → Int32) (marsh_plans_lengths : Nat → Int32) (marsh_landings_cells : Nat → Int32) (marsh_landings_count : Int32) (marsh_fogSide : Int32) (history_slots : Nat → mm_MV) (history_free : Int32) (history_count : Int32) (ways_tolls : Nat → Int32) (ways_queue : Nat → Int32) (ways_found : Nat → Int32) (reader_kinds : Nat → Int32) (reader_starts : Nat → Int32) (commandText_signs : Nat → Int32) (commandText_length : Int32) (lastErrorPosition : Int32) (lastFailedCommand : Int32) : Option (Nat × Int32 × (Nat → Int32) × Int32 × Int32 × (Nat → Int32) × (Nat → Int32) × (Nat → Int32) × Int32 × Int32 × Int32 × Int32 × Int32 × (Nat → Int32) × (Nat → Int32) × (Nat → Int32) × Int32 × Int32 × (Nat → mm_MV) × Int32 × Int32 × (Nat → Int32) × (Nat → Int32) × (Nat → Int32) × (Nat → Int32) × (Nat → Int32) × Int32 × Int32 × Int32 × Int32) := (f_X2_readAll K reader_kinds reader_starts commandText_signs commandText_length).bind fun q8 => if q8.1 = (-1) then (f_X4_note history_slots history_free marsh_reeds_states marsh_reeds_count marsh_reeds_broken marsh_fleet_numbers marsh_fleet_cells marsh_fleet_fares marsh_fleet_count marsh_fleet_nextNumber marsh_fleet_total marsh_fleet_removedFares marsh_fleet_meetings marsh_plans_moves marsh_plans_lengths marsh_landings_cells marsh_landings_count marsh_fogSide).bind fun q45 => (f_X12_carryOutAll K marsh_reeds_states marsh_reeds_count marsh_reeds_broken marsh_fleet_numbers marsh_fleet_cells marsh_fleet_fares marsh_fleet_count marsh_fleet_nextNumber marsh_fleet_total marsh_fleet_meetings marsh_plans_moves marsh_plans_lengths marsh_landings_cells marsh_landings_count marsh_fogSide ways_tolls ways_queue ways_found q8.2.1 q8.2.2.1 q8.2.2.2 commandText_signs commandText_length).bind fun q49 => (f_X10_wipe).bind fun q57 => if q49.1 = (-1) then (f_X4_confirm history_free history_count).bind fun q93 => some (0, q8.2.2.2, q49.2.1, q49.2.2.1, q49.2.2.2.1, q49.2.2.2.2.1, q49.2.2.2.2.2.1, q49.2.2.2.2.2.2.1, q49.2.2.2.2.2.2.2.1, q49.2.2.2.2.2.2.2.2.1, q49.2.2.2.2.2.2.2.2.2.1, marsh_fleet_removedFares, q49.2.2.2.2.2.2.2.2.2.2.1, q49.2.2.2.2.2.2.2.2.2.2.2.1, q49.2.2.2.2.2.2.2.2.2.2.2.2.1, q49.2.2.2.2.2.2.2.2.2.2.2.2.2.1, q49.2.2.2.2.2.2.2.2.2.2.2.2.2.2.1, q49.2.2.2.2.2.2.2.2.2.2.2.2.2.2.2.1, q45, q93.1, q93.2, q49.2.2.2.2.2.2.2.2.2.2.2.2.2.2.2.2.1, q49.2.2.2.2.2.2.2.2.2.2.2.2.2.2.2.2.2.1, q49.2.2.2.2.2.2.2.2.2.2.2.2.2.2.2.2.2.2, q8.2.1, q8.2.2.1, q8.2.2.2, q57, lastErrorPosition, lastFailedCommand) else (f_X4_putBack q45 history_free q49.2.1 q49.2.2.2.2.1 q49.2.2.2.2.2.1 q49.2.2.2.2.2.2.1 q49.2.2.2.2.2.2.2.2.2.2.2.1 q49.2.2.2.2.2.2.2.2.2.2.2.2.1 q49.2.2.2.2.2.2.2.2.2.2.2.2.2.1).bind fun q73 => some (3, 0, q73.1, q73.2.1, q73.2.2.1, q73.2.2.2.1, q73.2.2.2.2.1, q73.2.2.2.2.2.1, q73.2.2.2.2.2.2.1, q73.2.2.2.2.2.2.2.1, q73.2.2.2.2.2.2.2.2.1, q73.2.2.2.2.2.2.2.2.2.1, q73.2.2.2.2.2.2.2.2.2.2.1, q73.2.2.2.2.2.2.2.2.2.2.2.1, q73.2.2.2.2.2.2.2.2.2.2.2.2.1, q73.2.2.2.2.2.2.2.2.2.2.2.2.2.1, q73.2.2.2.2.2.2.2.2.2.2.2.2.2.2.1, q73.2.2.2.2.2.2.2.2.2.2.2.2.2.2.2, q45, history_free, history_count, q49.2.2.2.2.2.2.2.2.2.2.2.2.2.2.2.2.1, q49.2.2.2.2.2.2.2.2.2.2.2.2.2.2.2.2.2.1, q49.2.2.2.2.2.2.2.2.2.2.2.2.2.2.2.2.2.2, q8.2.1, q8.2.2.1, q8.2.2.2, q57, lastErrorPosition, q49.1) else (f_X10_wipe).bind fun q21 => some (4, 0, marsh_reeds_states, marsh_reeds_count, marsh_reeds_broken, marsh_fleet_numbers, marsh_fleet_cells, marsh_fleet_fares, marsh_fleet_count, marsh_fleet_nextNumber, marsh_fleet_total, marsh_fleet_removedFares, marsh_fleet_meetings, marsh_plans_moves, marsh_plans_lengths, marsh_landings_cells, marsh_landings_count, marsh_fogSide, history_slots, history_free, history_count, ways_tolls, ways_queue, ways_found, q8.2.1, q8.2.2.1, q8.2.2.2, q21, q8.1, lastFailedCommand)
set_option maxHeartbeats 4000000 in
set_option maxRecDepth 100000 in
theorem c_X12_run (l : Launch) (hfl : l.stackTraces = false) {G : mm_G} {K : Nat} {w : va_W} {sz : Nat} {b : Nat} {marsh_reeds_states : Nat → Int32} {marsh_reeds_count : Int32} {marsh_reeds_broken : Int32} {marsh_fleet_numbers : Nat → Int32} {marsh_fleet_cells : Nat → Int32} {marsh_fleet_fares : Nat → Int32} {marsh_fleet_count : Int32} {marsh_fleet_nextNumber : Int32} {marsh_fleet_total : Int32} {marsh_fleet_removedFares : Int32} {marsh_fleet_meetings : Int32} {marsh_plans_moves : Nat → Int32} {marsh_plans_lengths : Nat → Int32} {marsh_landings_cells : Nat → Int32} {marsh_landings_count : Int32} {marsh_fogSide : Int32} {snapshot_reeds_states : Nat → Int32} {snapshot_reeds_count : Int32} {snapshot_reeds_broken : Int32} {snapshot_fleet_numbers : Nat → Int32} {snapshot_fleet_cells : Nat → Int32} {snapshot_fleet_fares : Nat → Int32} {snapshot_fleet_count : Int32} {snapshot_fleet_nextNumber : Int32} {snapshot_fleet_total : Int32} {snapshot_fleet_removedFares : Int32} {snapshot_fleet_meetings : Int32} {snapshot_plans_moves : Nat → Int32} {snapshot_plans_lengths : Nat → Int32} {snapshot_landings_cells : Nat → Int32} {snapshot_landings_count : Int32} {snapshot_fogSide : Int32} {history_slots : Nat → mm_MV} {history_free : Int32} {history_count : Int32} {ways_tolls : Nat → Int32} {ways_queue : Nat → Int32} {ways_heap : Nat → Int32} {ways_heapSize : Int32} {ways_found : Nat → Int32} {ways_improved : Nat → Int32} {pairing_costs : Nat → Int32} {pairing_best : Nat → Int32} {reader_kinds : Nat → Int32} {reader_starts : Nat → Int32} {reader_count : Int32} {commandText_signs : Nat → Int32} {commandText_length : Int32} {line_signs : Nat → Int32} {line_length : Int32} {spareMoves : Nat → Int32} {snapshotTaken : Int32} {lastErrorPosition : Int32} {lastFailedCommand : Int32} {X : Nat × Int32 × (Nat → Int32) × Int32 × Int32 × (Nat → Int32) × (Nat → Int32) × (Nat → Int32) × Int32 × Int32 × Int32 × Int32 × Int32 × (Nat → Int32) × (Nat → Int32) × (Nat → Int32) × Int32 × Int32 × (Nat → mm_MV) × Int32 × Int32 × (Nat → Int32) × (Nat → Int32) × (Nat → Int32) × (Nat → Int32) × (Nat → Int32) × Int32 × Int32 × Int32 × Int32} (hf : f_X12_run K marsh_reeds_states marsh_reeds_count marsh_reeds_broken marsh_fleet_numbers marsh_fleet_cells marsh_fleet_fares marsh_fleet_count marsh_fleet_nextNumber marsh_fleet_total marsh_fleet_removedFares marsh_fleet_meetings marsh_plans_moves marsh_plans_lengths marsh_landings_cells marsh_landings_count marsh_fogSide history_slots history_free history_count ways_tolls ways_queue ways_found reader_kinds reader_starts commandText_signs commandText_length lastErrorPosition lastFailedCommand = some X) (hp_this : At12 G w b marsh_reeds_states marsh_reeds_count marsh_reeds_broken marsh_fleet_numbers marsh_fleet_cells marsh_fleet_fares marsh_fleet_count marsh_fleet_nextNumber marsh_fleet_total marsh_fleet_removedFares marsh_fleet_meetings marsh_plans_moves marsh_plans_lengths marsh_landings_cells marsh_landings_count marsh_fogSide snapshot_reeds_states snapshot_reeds_count snapshot_reeds_broken snapshot_fleet_numbers snapshot_fleet_cells snapshot_fleet_fares snapshot_fleet_count snapshot_fleet_nextNumber snapshot_fleet_total snapshot_fleet_removedFares snapshot_fleet_meetings snapshot_plans_moves snapshot_plans_lengths snapshot_landings_cells snapshot_landings_count snapshot_fogSide history_slots history_free history_count ways_tolls ways_queue ways_heap ways_heapSize ways_found ways_improved pairing_costs pairing_best reader_kinds reader_starts reader_count commandText_signs commandText_length line_signs line_length spareMoves snapshotTaken lastErrorPosition lastFailedCommand) : vx_Met l yX12_run (Cond.code yX12_run cX12_run 3 (some .int) :: gAll) ({ frames := 7, cells := 1, slots := 6, locals := 194 }) (va_Pc [.ref b] (mm_Pre G w sz)) (mm_Qi G w sz (fun r w' => X.1 = 0 ∧ r = X.2.1 ∧ At12 G w' b X.2.2.1 X.2.2.2.1 X.2.2.2.2.1 X.2.2.2.2.2.1 X.2.2.2.2.2.2.1 X.2.2.2.2.2.2.2.1 X.2.2.2.2.2.2.2.2.1 X.2.2.2.2.2.2.2.2.2.1 X.2.2.2.2.2.2.2.2.2.2.1 X.2.2.2.2.2.2.2.2.2.2.2.1 X.2.2.2.2.2.2.2.2.2.2.2.2.1 X.2.2.2.2.2.2.2.2.2.2.2.2.2.1 X.2.2.2.2.2.2.2.2.2.2.2.2.2.2.1 X.2.2.2.2.2.2.2.2.2.2.2.2.2.2.2.1 X.2.2.2.2.2.2.2.2.2.2.2.2.2.2.2.2.1 X.2.2.2.2.2.2.2.2.2.2.2.2.2.2.2.2.2.1 snapshot_reeds_states snapshot_reeds_count snapshot_reeds_broken snapshot_fleet_numbers snapshot_fleet_cells snapshot_fleet_fares snapshot_fleet_count snapshot_fleet_nextNumber snapshot_fleet_total snapshot_fleet_removedFares snapshot_fleet_meetings snapshot_plans_moves snapshot_plans_lengths snapshot_landings_cells snapshot_landings_count snapshot_fogSide X.2.2.2.2.2.2.2.2.2.2.2.2.2.2.2.2.2.2.1 X.2.2.2.2.2.2.2.2.2.2.2.2.2.2.2.2.2.2.2.1 X.2.2.2.2.2.2.2.2.2.2.2.2.2.2.2.2.2.2.2.2.1 X.2.2.2.2.2.2.2.2.2.2.2.2.2.2.2.2.2.2.2.2.2.1 X.2.2.2.2.2.2.2.2.2.2.2.2.2.2.2.2.2.2.2.2.2.2.1 ways_heap ways_heapSize X.2.2.2.2.2.2.2.2.2.2.2.2.2.2.2.2.2.2.2.2.2.2.2.1 ways_improved pairing_costs pairing_best X.2.2.2.2.2.2.2.2.2.2.2.2.2.2.2.2.2.2.2.2.2.2.2.2.1 X.2.2.2.2.2.2.2.2.2.2.2.2.2.2.2.2.2.2.2.2.2.2.2.2.2.1 X.2.2.2.2.2.2.2.2.2.2.2.2.2.2.2.2.2.2.2.2.2.2.2.2.2.2.1 commandText_signs X.2.2.2.2.2.2.2.2.2.2.2.2.2.2.2.2.2.2.2.2.2.2.2.2.2.2.2.1 line_signs line_length spareMoves snapshotTaken X.2.2.2.2.2.2.2.2.2.2.2.2.2.2.2.2.2.2.2.2.2.2.2.2.2.2.2.2.1 X.2.2.2.2.2.2.2.2.2.2.2.2.2.2.2.2.2.2.2.2.2.2.2.2.2.2.2.2.2 ∧ mm_fr w w' b (b + 152))) (mm_QX G w sz (fun E w' => X.1 ≠ 0 ∧ E = mm_ex X.1 ∧ At12 G w' b X.2.2.1 X.2.2.2.1 X.2.2.2.2.1 X.2.2.2.2.2.1 X.2.2.2.2.2.2.1 X.2.2.2.2.2.2.2.1 X.2.2.2.2.2.2.2.2.1 X.2.2.2.2.2.2.2.2.2.1 X.2.2.2.2.2.2.2.2.2.2.1 X.2.2.2.2.2.2.2.2.2.2.2.1 X.2.2.2.2.2.2.2.2.2.2.2.2.1 X.2.2.2.2.2.2.2.2.2.2.2.2.2.1 X.2.2.2.2.2.2.2.2.2.2.2.2.2.2.1 X.2.2.2.2.2.2.2.2.2.2.2.2.2.2.2.1 X.2.2.2.2.2.2.2.2.2.2.2.2.2.2.2.2.1 X.2.2.2.2.2.2.2.2.2.2.2.2.2.2.2.2.2.1 snapshot_reeds_states snapshot_reeds_count snapshot_reeds_broken snapshot_fleet_numbers snapshot_fleet_cells snapshot_fleet_fares snapshot_fleet_count snapshot_fleet_nextNumber snapshot_fleet_total snapshot_fleet_removedFares snapshot_fleet_meetings snapshot_plans_moves snapshot_plans_lengths snapshot_landings_cells snapshot_landings_count snapshot_fogSide X.2.2.2.2.2.2.2.2.2.2.2.2.2.2.2.2.2.2.1 X.2.2.2.2.2.2.2.2.2.2.2.2.2.2.2.2.2.2.2.1 X.2.2.2.2.2.2.2.2.2.2.2.2.2.2.2.2.2.2.2.2.1 X.2.2.2.2.2.2.2.2.2.2.2.2.2.2.2.2.2.2.2.2.2.1 X.2.2.2.2.2.2.2.2.2.2.2.2.2.2.2.2.2.2.2.2.2.2.1 ways_heap ways_heapSize X.2.2.2.2.2.2.2.2.2.2.2.2.2.2.2.2.2.2.2.2.2.2.2.1 ways_improved pairing_costs pairing_best X.2.2.2.2.2.2.2.2.2.2.2.2.2.2.2.2.2.2.2.2.2.2.2.2.1 X.2.2.2.2.2.2.2.2.2.2.2.2.2.2.2.2.2.2.2.2.2.2.2.2.2.1 X.2.2.2.2.2.2.2.2.2.2.2.2.2.2.2.2.2.2.2.2.2.2.2.2.2.2.1 commandText_signs X.2.2.2.2.2.2.2.2.2.2.2.2.2.2.2.2.2.2.2.2.2.2.2.2.2.2.2.1 line_signs line_length spareMoves snapshotTaken X.2.2.2.2.2.2.2.2.2.2.2.2.2.2.2.2.2.2.2.2.2.2.2.2.2.2.2.2.1 X.2.2.2.2.2.2.2.2.2.2.2.2.2.2.2.2.2.2.2.2.2.2.2.2.2.2.2.2.2 ∧ mm_fr w w' b (b + 152))) 1 6 (va_A w sz) := by
  refine mm_xheadI hfl [.ref b] (by decide +kernel) rfl (Nat.le_of_ble_eq_true rfl) rfl rfl ?_
  intro p e s m args below meth c A Q hsz hC hM hret hprop hthrow ls hl
  have hx := hC.1.1
  have hb := hC.1.2.1
  have hl : lv_has ls 3 [(0, .ref b)] := hl
  have hF : mm_fr w w b (b + 152) := mm_fr.rf
  rw [f_X12_run] at hf
  obtain ⟨hc_this, hp_this_marsh, hp_this_snapshot, hp_this_history, hp_this_ways, hp_this_pairing, hp_this_reader, hp_this_commandText, hp_this_line, hp_this_spareMoves⟩ := hp_this
  refine lv_aload_n hx hb dX12_run_0 rfl (lv_at hl 0 rfl) ?_
  refine mm_get hC hM (k := 5) hc_this rfl inAX12 (by decide) q2_21 rfl dX12_run_1 ?_
  refine lv_aload_n hx hb dX12_run_4 rfl (lv_at hl 0 rfl) ?_
  refine mm_get hC hM (k := 6) hc_this rfl inAX12 (by decide) q2_22 rfl dX12_run_5 ?_
  obtain ⟨q8, hq8, hf⟩ := mm_bd hf
  refine mm_Vi (rest := []) hC hM (c_X2_readAll l hq8 hp_this_reader hp_this_commandText (by omega)) q6_15 q1_10 ykX2_readAll q6_12 q6_13 q6_14 hp_this_reader.1 rfl ⟨rfl, rfl⟩ ⟨Nat.le_of_ble_eq_true rfl, Nat.le_of_ble_eq_true rfl⟩ rfl hl.1 rfl (Nat.le_of_ble_eq_true rfl) dX12_run_8 ⟨Nat.le_of_ble_eq_true rfl, Nat.le_of_ble_eq_true rfl⟩ (fun r w8 H locs hM hw => ?_)
  obtain ⟨hr, hn_this, hfr⟩ := hw
  rw [hr]
  have hc_this := hfr.keep hc_this (by omega)
  have hp_this_spareMoves := hfr.keep hp_this_spareMoves (by omega)
  have hp_this_marsh := hp_this_marsh.keep hfr (by omega)
  have hp_this_snapshot := hp_this_snapshot.keep hfr (by omega)
  have hp_this_history := hp_this_history.keep hfr (by omega)
  have hp_this_ways := hp_this_ways.keep hfr (by omega)
  have hp_this_pairing := hp_this_pairing.keep hfr (by omega)
  have hp_this_commandText := hp_this_commandText.keep hfr (by omega)
  have hp_this_line := hp_this_line.keep hfr (by omega)
  have hp_this_reader := hn_this
  have hF := hF.tr (hfr.wide (by omega) (by omega))
  refine lv_istore_n (lv' := [(1, .int q8.1), (0, .ref b)]) hx hb dX12_run_11 rfl hl (by decide) rfl (fun ls hl => ?_)
  refine lv_iload_n hx hb dX12_run_12 rfl (lv_at hl 0 rfl) ?_
  refine lv_iconst (v := (-1)) hx hb dX12_run_13 (by decide) ?_
  refine lv_icmp_eq (tgt := 37) hx hb dX12_run_14 (by decide) (fun hcd => ?_) (fun hcd => ?_)
  · rw [if_pos hcd] at hf
    refine lv_aload_n hx hb dX12_run_37 rfl (lv_at hl 1 rfl) ?_
    refine mm_get hC hM (k := 2) hc_this rfl inAX12 (by decide) q2_18 rfl dX12_run_38 ?_
    refine lv_aload_n hx hb dX12_run_41 rfl (lv_at hl 1 rfl) ?_
    refine mm_get hC hM (k := 0) hc_this rfl inAX12 (by decide) q2_16 rfl dX12_run_42 ?_
    obtain ⟨q45, hq45, hf⟩ := mm_bd hf
    refine mm_Vv (rest := []) hC hM (c_X4_note l hq45 hp_this_history hp_this_marsh (by omega)) q3_178 q1_7 ykX4_note q3_175 q3_176 q3_177 hp_this_history.1 rfl ⟨rfl, rfl⟩ ⟨Nat.le_of_ble_eq_true rfl, Nat.le_of_ble_eq_true rfl⟩ rfl hl.1 rfl (Nat.le_of_ble_eq_true rfl) dX12_run_45 ⟨Nat.le_of_ble_eq_true rfl, Nat.le_of_ble_eq_true rfl⟩ (fun w45 H locs hM hw => ?_)
    obtain ⟨hn_this, hfr⟩ := hw
    have hc_this := hfr.keep hc_this (by omega)
    have hp_this_spareMoves := hfr.keep hp_this_spareMoves (by omega)
    have hp_this_marsh := hp_this_marsh.keep hfr (by omega)
    have hp_this_snapshot := hp_this_snapshot.keep hfr (by omega)
    have hp_this_ways := hp_this_ways.keep hfr (by omega)
    have hp_this_pairing := hp_this_pairing.keep hfr (by omega)
    have hp_this_reader := hp_this_reader.keep hfr (by omega)
    have hp_this_commandText := hp_this_commandText.keep hfr (by omega)
    have hp_this_line := hp_this_line.keep hfr (by omega)
    have hp_this_history := hn_this
    have hF := hF.tr (hfr.wide (by omega) (by omega))
    refine lv_aload_n hx hb dX12_run_48 rfl (lv_at hl 1 rfl) ?_
    obtain ⟨q49, hq49, hf⟩ := mm_bd hf
    refine mm_Vi (rest := []) hC hM (c_X12_carryOutAll l hq49 ⟨hc_this, hp_this_marsh, hp_this_snapshot, hp_this_history, hp_this_ways, hp_this_pairing, hp_this_reader, hp_this_commandText, hp_this_line, hp_this_spareMoves⟩) q6_107 q1_1 ykX12_carryOutAll q6_104 q6_106 qp_e92148a0 hc_this rfl ⟨rfl, rfl⟩ ⟨Nat.le_of_ble_eq_true rfl, Nat.le_of_ble_eq_true rfl⟩ rfl hl.1 rfl (Nat.le_of_ble_eq_true rfl) dX12_run_49 ⟨Nat.le_of_ble_eq_true rfl, Nat.le_of_ble_eq_true rfl⟩ (fun r w49 H locs hM hw => ?_)
    obtain ⟨hr, hn_this, hfr⟩ := hw
    rw [hr]
    obtain ⟨hc_this, hp_this_marsh, hp_this_snapshot, hp_this_history, hp_this_ways, hp_this_pairing, hp_this_reader, hp_this_commandText, hp_this_line, hp_this_spareMoves⟩ := hn_this
    have hF := hF.tr (hfr.wide (by omega) (by omega))
    refine lv_istore_n (lv' := [(2, .int q49.1), (1, .int q8.1), (0, .ref b)]) hx hb dX12_run_52 rfl hl (by decide) rfl (fun ls hl => ?_)
    refine lv_aload_n hx hb dX12_run_53 rfl (lv_at hl 2 rfl) ?_
    refine mm_get hC hM (k := 6) hc_this rfl inAX12 (by decide) q2_22 rfl dX12_run_54 ?_
    obtain ⟨q57, hq57, hf⟩ := mm_bd hf
    refine mm_Vv (rest := []) hC hM (c_X10_wipe l hq57 hp_this_commandText) q6_103 q1_11 ykX10_wipe q6_100 q6_101 q6_102 hp_this_commandText.1 rfl ⟨rfl, rfl⟩ ⟨Nat.le_of_ble_eq_true rfl, Nat.le_of_ble_eq_true rfl⟩ rfl hl.1 rfl (Nat.le_of_ble_eq_true rfl) dX12_run_57 ⟨Nat.le_of_ble_eq_true rfl, Nat.le_of_ble_eq_true rfl⟩ (fun w57 H locs hM hw => ?_)
    obtain ⟨hn_this, hfr⟩ := hw
    have hc_this := hfr.keep hc_this (by omega)
    have hp_this_spareMoves := hfr.keep hp_this_spareMoves (by omega)
    have hp_this_marsh := hp_this_marsh.keep hfr (by omega)
    have hp_this_snapshot := hp_this_snapshot.keep hfr (by omega)
    have hp_this_history := hp_this_history.keep hfr (by omega)
    have hp_this_ways := hp_this_ways.keep hfr (by omega)
    have hp_this_pairing := hp_this_pairing.keep hfr (by omega)
    have hp_this_reader := hp_this_reader.keep hfr (by omega)
    have hp_this_line := hp_this_line.keep hfr (by omega)
    have hp_this_commandText := hn_this
    have hF := hF.tr (hfr.wide (by omega) (by omega))
    refine lv_iload_n hx hb dX12_run_60 rfl (lv_at hl 0 rfl) ?_
    refine lv_iconst (v := (-1)) hx hb dX12_run_61 (by decide) ?_
    refine lv_icmp_eq (tgt := 89) hx hb dX12_run_62 (by decide) (fun hcd => ?_) (fun hcd => ?_)
    · rw [if_pos hcd] at hf
      refine lv_aload_n hx hb dX12_run_89 rfl (lv_at hl 2 rfl) ?_
      refine mm_get hC hM (k := 2) hc_this rfl inAX12 (by decide) q2_18 rfl dX12_run_90 ?_
      obtain ⟨q93, hq93, hf⟩ := mm_bd hf
      refine mm_Vv (rest := []) hC hM (c_X4_confirm l hq93 hp_this_history) q4_46 q1_7 ykX4_confirm q4_43 q4_44 q4_45 hp_this_history.1 rfl ⟨rfl, rfl⟩ ⟨Nat.le_of_ble_eq_true rfl, Nat.le_of_ble_eq_true rfl⟩ rfl hl.1 rfl (Nat.le_of_ble_eq_true rfl) dX12_run_93 ⟨Nat.le_of_ble_eq_true rfl, Nat.le_of_ble_eq_true rfl⟩ (fun w93 H locs hM hw => ?_)
      obtain ⟨hn_this, hfr⟩ := hw
      have hc_this := hfr.keep hc_this (by omega)
      have hp_this_spareMoves := hfr.keep hp_this_spareMoves (by omega)
      have hp_this_marsh := hp_this_marsh.keep hfr (by omega)
      have hp_this_snapshot := hp_this_snapshot.keep hfr (by omega)
      have hp_this_ways := hp_this_ways.keep hfr (by omega)
      have hp_this_pairing := hp_this_pairing.keep hfr (by omega)
      have hp_this_reader := hp_this_reader.keep hfr (by omega)
      have hp_this_commandText := hp_this_commandText.keep hfr (by omega)
      have hp_this_line := hp_this_line.keep hfr (by omega)
      have hp_this_history := hn_this
      have hF := hF.tr (hfr.wide (by omega) (by omega))
      refine lv_aload_n hx hb dX12_run_96 rfl (lv_at hl 2 rfl) ?_
      refine mm_get hC hM (k := 5) hc_this rfl inAX12 (by decide) q2_21 rfl dX12_run_97 ?_
      refine mm_get hC hM (k := 2) hp_this_reader.1 rfl inAX2 (by decide) q1_232 rfl dX12_run_100 ?_
      cases hf
      exact hret hM dX12_run_103 rfl ⟨rfl, rfl, ⟨hc_this, hp_this_marsh, hp_this_snapshot, hp_this_history, hp_this_ways, hp_this_pairing, hp_this_reader, hp_this_commandText, hp_this_line, hp_this_spareMoves⟩, hF⟩ (Nat.le_of_ble_eq_true rfl) (Nat.le_of_ble_eq_true rfl)
    · rw [if_neg hcd] at hf
      refine lv_aload_n hx hb dX12_run_65 rfl (lv_at hl 2 rfl) ?_
      refine mm_get hC hM (k := 2) hc_this rfl inAX12 (by decide) q2_18 rfl dX12_run_66 ?_
      refine lv_aload_n hx hb dX12_run_69 rfl (lv_at hl 2 rfl) ?_
      refine mm_get hC hM (k := 0) hc_this rfl inAX12 (by decide) q2_16 rfl dX12_run_70 ?_
      obtain ⟨q73, hq73, hf⟩ := mm_bd hf
      refine mm_Vv (rest := []) hC hM (c_X4_putBack l hq73 hp_this_history hp_this_marsh (by omega)) q6_135 q1_7 ykX4_putBack q6_132 q6_133 q6_134 hp_this_history.1 rfl ⟨rfl, rfl⟩ ⟨Nat.le_of_ble_eq_true rfl, Nat.le_of_ble_eq_true rfl⟩ rfl hl.1 rfl (Nat.le_of_ble_eq_true rfl) dX12_run_73 ⟨Nat.le_of_ble_eq_true rfl, Nat.le_of_ble_eq_true rfl⟩ (fun w73 H locs hM hw => ?_)
      obtain ⟨hn_p1, hfr⟩ := hw
      have hc_this := hfr.keep hc_this (by omega)
      have hp_this_spareMoves := hfr.keep hp_this_spareMoves (by omega)
      have hp_this_snapshot := hp_this_snapshot.keep hfr (by omega)
      have hp_this_history := hp_this_history.keep hfr (by omega)
      have hp_this_ways := hp_this_ways.keep hfr (by omega)
      have hp_this_pairing := hp_this_pairing.keep hfr (by omega)
      have hp_this_reader := hp_this_reader.keep hfr (by omega)
      have hp_this_commandText := hp_this_commandText.keep hfr (by omega)
      have hp_this_line := hp_this_line.keep hfr (by omega)
      have hp_this_marsh := hn_p1
      have hF := hF.tr (hfr.wide (by omega) (by omega))
      refine lv_aload_n hx hb dX12_run_76 rfl (lv_at hl 2 rfl) ?_
      refine lv_iload_n hx hb dX12_run_77 rfl (lv_at hl 0 rfl) ?_
      refine mm_put hC hM (k := 11) tyX12 hc_this rfl inAX12 tyX12_ok nmX12 (by decide) q2_27 rfl rfl rfl rfl (Nat.le_of_ble_eq_true rfl) dX12_run_78 (fun w78 H locs hM hm => ?_)
      have hc_this := hm.1
      have hp_this_spareMoves := hm.keep hp_this_spareMoves (by omega)
      have hp_this_marsh := hp_this_marsh.up hm (by omega)
      have hp_this_snapshot := hp_this_snapshot.up hm (by omega)
      have hp_this_history := hp_this_history.up hm (by omega)
      have hp_this_ways := hp_this_ways.up hm (by omega)
      have hp_this_pairing := hp_this_pairing.up hm (by omega)
      have hp_this_reader := hp_this_reader.up hm (by omega)
      have hp_this_commandText := hp_this_commandText.up hm (by omega)
      have hp_this_line := hp_this_line.up hm (by omega)
      have hF := hF.tr (hm.fr (by omega) (by omega))
      cases hf
      exact hthrow (names := ["java/lang/RuntimeException", "java/lang/Exception"]) hM hl.1 (by decide +kernel) (by decide +kernel) q3_238 q1_21 vxa_3 vxb_3 dX12_run_81 dX12_run_84 dX12_run_85 dX12_run_88 (by decide) (Nat.le_of_ble_eq_true rfl) (Nat.le_of_ble_eq_true rfl) (Nat.le_of_ble_eq_true rfl) ⟨(by simp), rfl, ⟨hc_this, hp_this_marsh, hp_this_snapshot, hp_this_history, hp_this_ways, hp_this_pairing, hp_this_reader, hp_this_commandText, hp_this_line, hp_this_spareMoves⟩, hF⟩
  · rw [if_neg hcd] at hf
    refine lv_aload_n hx hb dX12_run_17 rfl (lv_at hl 1 rfl) ?_
    refine mm_get hC hM (k := 6) hc_this rfl inAX12 (by decide) q2_22 rfl dX12_run_18 ?_
    obtain ⟨q21, hq21, hf⟩ := mm_bd hf
    refine mm_Vv (rest := []) hC hM (c_X10_wipe l hq21 hp_this_commandText) q6_103 q1_11 ykX10_wipe q6_100 q6_101 q6_102 hp_this_commandText.1 rfl ⟨rfl, rfl⟩ ⟨Nat.le_of_ble_eq_true rfl, Nat.le_of_ble_eq_true rfl⟩ rfl hl.1 rfl (Nat.le_of_ble_eq_true rfl) dX12_run_21 ⟨Nat.le_of_ble_eq_true rfl, Nat.le_of_ble_eq_true rfl⟩ (fun w21 H locs hM hw => ?_)
    obtain ⟨hn_this, hfr⟩ := hw
    have hc_this := hfr.keep hc_this (by omega)
    have hp_this_spareMoves := hfr.keep hp_this_spareMoves (by omega)
    have hp_this_marsh := hp_this_marsh.keep hfr (by omega)
    have hp_this_snapshot := hp_this_snapshot.keep hfr (by omega)
    have hp_this_history := hp_this_history.keep hfr (by omega)
    have hp_this_ways := hp_this_ways.keep hfr (by omega)
    have hp_this_pairing := hp_this_pairing.keep hfr (by omega)
    have hp_this_reader := hp_this_reader.keep hfr (by omega)
    have hp_this_line := hp_this_line.keep hfr (by omega)
    have hp_this_commandText := hn_this
    have hF := hF.tr (hfr.wide (by omega) (by omega))
    refine lv_aload_n hx hb dX12_run_24 rfl (lv_at hl 1 rfl) ?_
    refine lv_iload_n hx hb dX12_run_25 rfl (lv_at hl 0 rfl) ?_
    refine mm_put hC hM (k := 10) tyX12 hc_this rfl inAX12 tyX12_ok nmX12 (by decide) q2_26 rfl rfl rfl rfl (Nat.le_of_ble_eq_true rfl) dX12_run_26 (fun w26 H locs hM hm => ?_)
    have hc_this := hm.1
    have hp_this_spareMoves := hm.keep hp_this_spareMoves (by omega)
    have hp_this_marsh := hp_this_marsh.up hm (by omega)
    have hp_this_snapshot := hp_this_snapshot.up hm (by omega)
    have hp_this_history := hp_this_history.up hm (by omega)
    have hp_this_ways := hp_this_ways.up hm (by omega)
    have hp_this_pairing := hp_this_pairing.up hm (by omega)
    have hp_this_reader := hp_this_reader.up hm (by omega)
    have hp_this_commandText := hp_this_commandText.up hm (by omega)
    have hp_this_line := hp_this_line.up hm (by omega)
    have hF := hF.tr (hm.fr (by omega) (by omega))
    cases hf
    exact hthrow (names := ["java/lang/RuntimeException", "java/lang/Exception"]) hM hl.1 (by decide +kernel) (by decide +kernel) q4_13 q1_22 vxa_4 vxb_4 dX12_run_29 dX12_run_32 dX12_run_33 dX12_run_36 (by decide) (Nat.le_of_ble_eq_true rfl) (Nat.le_of_ble_eq_true rfl) (Nat.le_of_ble_eq_true rfl) ⟨(by simp), rfl, ⟨hc_this, hp_this_marsh, hp_this_snapshot, hp_this_history, hp_this_ways, hp_this_pairing, hp_this_reader, hp_this_commandText, hp_this_line, hp_this_spareMoves⟩, hF⟩
def f_X12_errorPosition (lastErrorPosition : Int32) : Option (Nat × Int32) := if lastErrorPosition = (-1) then some (2, 0) else some (0, lastErrorPosition)
set_option maxHeartbeats 4000000 in
set_option maxRecDepth 100000 in
theorem c_X12_errorPosition (l : Launch) (hfl : l.stackTraces = false) {G : mm_G} {w : va_W} {sz : Nat} {b : Nat} {marsh_reeds_states : Nat → Int32} {marsh_reeds_count : Int32} {marsh_reeds_broken : Int32} {marsh_fleet_numbers : Nat → Int32} {marsh_fleet_cells : Nat → Int32} {marsh_fleet_fares : Nat → Int32} {marsh_fleet_count : Int32} {marsh_fleet_nextNumber : Int32} {marsh_fleet_total : Int32} {marsh_fleet_removedFares : Int32} {marsh_fleet_meetings : Int32} {marsh_plans_moves : Nat → Int32} {marsh_plans_lengths : Nat → Int32} {marsh_landings_cells : Nat → Int32} {marsh_landings_count : Int32} {marsh_fogSide : Int32} {snapshot_reeds_states : Nat → Int32} {snapshot_reeds_count : Int32} {snapshot_reeds_broken : Int32} {snapshot_fleet_numbers : Nat → Int32} {snapshot_fleet_cells : Nat → Int32} {snapshot_fleet_fares : Nat → Int32} {snapshot_fleet_count : Int32} {snapshot_fleet_nextNumber : Int32} {snapshot_fleet_total : Int32} {snapshot_fleet_removedFares : Int32} {snapshot_fleet_meetings : Int32} {snapshot_plans_moves : Nat → Int32} {snapshot_plans_lengths : Nat → Int32} {snapshot_landings_cells : Nat → Int32} {snapshot_landings_count : Int32} {snapshot_fogSide : Int32} {history_slots : Nat → mm_MV} {history_free : Int32} {history_count : Int32} {ways_tolls : Nat → Int32} {ways_queue : Nat → Int32} {ways_heap : Nat → Int32} {ways_heapSize : Int32} {ways_found : Nat → Int32} {ways_improved : Nat → Int32} {pairing_costs : Nat → Int32} {pairing_best : Nat → Int32} {reader_kinds : Nat → Int32} {reader_starts : Nat → Int32} {reader_count : Int32} {commandText_signs : Nat → Int32} {commandText_length : Int32} {line_signs : Nat → Int32} {line_length : Int32} {spareMoves : Nat → Int32} {snapshotTaken : Int32} {lastErrorPosition : Int32} {lastFailedCommand : Int32} {X : Nat × Int32} (hf : f_X12_errorPosition lastErrorPosition = some X) (hp_this : At12 G w b marsh_reeds_states marsh_reeds_count marsh_reeds_broken marsh_fleet_numbers marsh_fleet_cells marsh_fleet_fares marsh_fleet_count marsh_fleet_nextNumber marsh_fleet_total marsh_fleet_removedFares marsh_fleet_meetings marsh_plans_moves marsh_plans_lengths marsh_landings_cells marsh_landings_count marsh_fogSide snapshot_reeds_states snapshot_reeds_count snapshot_reeds_broken snapshot_fleet_numbers snapshot_fleet_cells snapshot_fleet_fares snapshot_fleet_count snapshot_fleet_nextNumber snapshot_fleet_total snapshot_fleet_removedFares snapshot_fleet_meetings snapshot_plans_moves snapshot_plans_lengths snapshot_landings_cells snapshot_landings_count snapshot_fogSide history_slots history_free history_count ways_tolls ways_queue ways_heap ways_heapSize ways_found ways_improved pairing_costs pairing_best reader_kinds reader_starts reader_count commandText_signs commandText_length line_signs line_length spareMoves snapshotTaken lastErrorPosition lastFailedCommand) : vx_Met l yX12_errorPosition (Cond.code yX12_errorPosition cX12_errorPosition 1 (some .int) :: gAll) ({ frames := 7, cells := 1, slots := 6, locals := 120 }) (va_Pc [.ref b] (mm_Pre G w sz)) (mm_Qi G w sz (fun r w' => X.1 = 0 ∧ r = X.2 ∧ w' = w)) (mm_QX G w sz (fun E w' => X.1 ≠ 0 ∧ E = mm_ex X.1 ∧ w' = w)) 1 6 (va_A w sz) := by
  refine mm_xheadI hfl [.ref b] (by decide +kernel) rfl (Nat.le_of_ble_eq_true rfl) rfl rfl ?_
  intro p e s m args below meth c A Q hsz hC hM hret hprop hthrow ls hl
  have hx := hC.1.1
  have hb := hC.1.2.1
  have hl : lv_has ls 1 [(0, .ref b)] := hl
  rw [f_X12_errorPosition] at hf
  refine lv_aload_n hx hb dX12_errorPosition_0 rfl (lv_at hl 0 rfl) ?_
  refine mm_get hC hM (k := 10) hp_this.1 rfl inAX12 (by decide) q2_26 rfl dX12_errorPosition_1 ?_
  refine lv_iconst (v := (-1)) hx hb dX12_errorPosition_4 (by decide) ?_
  refine lv_icmp_ne (tgt := 16) hx hb dX12_errorPosition_5 (by decide) (fun hcd => ?_) (fun hcd => ?_)
  · rw [if_neg hcd] at hf
    refine lv_aload_n hx hb dX12_errorPosition_16 rfl (lv_at hl 0 rfl) ?_
    refine mm_get hC hM (k := 10) hp_this.1 rfl inAX12 (by decide) q2_26 rfl dX12_errorPosition_17 ?_
    cases hf
    exact hret hM dX12_errorPosition_20 rfl ⟨rfl, rfl, rfl⟩ (Nat.le_of_ble_eq_true rfl) (Nat.le_of_ble_eq_true rfl)
  · rw [if_pos hcd] at hf
    cases hf
    exact hthrow (names := ["java/lang/RuntimeException", "java/lang/Exception"]) hM hl.1 (by decide +kernel) (by decide +kernel) q3_223 q1_20 vxa_2 vxb_2 dX12_errorPosition_8 dX12_errorPosition_11 dX12_errorPosition_12 dX12_errorPosition_15 (by decide) (Nat.le_of_ble_eq_true rfl) (Nat.le_of_ble_eq_true rfl) (Nat.le_of_ble_eq_true rfl) ⟨(by simp), rfl, rfl⟩
def f_X12_failedCommand (lastFailedCommand : Int32) : Option (Nat × Int32) := if lastFailedCommand = (-1) then some (2, 0) else some (0, lastFailedCommand)
set_option maxHeartbeats 4000000 in
set_option maxRecDepth 100000 in
theorem c_X12_failedCommand (l : Launch) (hfl : l.stackTraces = false) {G : mm_G} {w : va_W} {sz : Nat} {b : Nat} {marsh_reeds_states : Nat → Int32} {marsh_reeds_count : Int32} {marsh_reeds_broken : Int32} {marsh_fleet_numbers : Nat → Int32} {marsh_fleet_cells : Nat → Int32} {marsh_fleet_fares : Nat → Int32} {marsh_fleet_count : Int32} {marsh_fleet_nextNumber : Int32} {marsh_fleet_total : Int32} {marsh_fleet_removedFares : Int32} {marsh_fleet_meetings : Int32} {marsh_plans_moves : Nat → Int32} {marsh_plans_lengths : Nat → Int32} {marsh_landings_cells : Nat → Int32} {marsh_landings_count : Int32} {marsh_fogSide : Int32} {snapshot_reeds_states : Nat → Int32} {snapshot_reeds_count : Int32} {snapshot_reeds_broken : Int32} {snapshot_fleet_numbers : Nat → Int32} {snapshot_fleet_cells : Nat → Int32} {snapshot_fleet_fares : Nat → Int32} {snapshot_fleet_count : Int32} {snapshot_fleet_nextNumber : Int32} {snapshot_fleet_total : Int32} {snapshot_fleet_removedFares : Int32} {snapshot_fleet_meetings : Int32} {snapshot_plans_moves : Nat → Int32} {snapshot_plans_lengths : Nat → Int32} {snapshot_landings_cells : Nat → Int32} {snapshot_landings_count : Int32} {snapshot_fogSide : Int32} {history_slots : Nat → mm_MV} {history_free : Int32} {history_count : Int32} {ways_tolls : Nat → Int32} {ways_queue : Nat → Int32} {ways_heap : Nat → Int32} {ways_heapSize : Int32} {ways_found : Nat → Int32} {ways_improved : Nat → Int32} {pairing_costs : Nat → Int32} {pairing_best : Nat → Int32} {reader_kinds : Nat → Int32} {reader_starts : Nat → Int32} {reader_count : Int32} {commandText_signs : Nat → Int32} {commandText_length : Int32} {line_signs : Nat → Int32} {line_length : Int32} {spareMoves : Nat → Int32} {snapshotTaken : Int32} {lastErrorPosition : Int32} {lastFailedCommand : Int32} {X : Nat × Int32} (hf : f_X12_failedCommand lastFailedCommand = some X) (hp_this : At12 G w b marsh_reeds_states marsh_reeds_count marsh_reeds_broken marsh_fleet_numbers marsh_fleet_cells marsh_fleet_fares marsh_fleet_count marsh_fleet_nextNumber marsh_fleet_total marsh_fleet_removedFares marsh_fleet_meetings marsh_plans_moves marsh_plans_lengths marsh_landings_cells marsh_landings_count marsh_fogSide snapshot_reeds_states snapshot_reeds_count snapshot_reeds_broken snapshot_fleet_numbers snapshot_fleet_cells snapshot_fleet_fares snapshot_fleet_count snapshot_fleet_nextNumber snapshot_fleet_total snapshot_fleet_removedFares snapshot_fleet_meetings snapshot_plans_moves snapshot_plans_lengths snapshot_landings_cells snapshot_landings_count snapshot_fogSide history_slots history_free history_count ways_tolls ways_queue ways_heap ways_heapSize ways_found ways_improved pairing_costs pairing_best reader_kinds reader_starts reader_count commandText_signs commandText_length line_signs line_length spareMoves snapshotTaken lastErrorPosition lastFailedCommand) : vx_Met l yX12_failedCommand (Cond.code yX12_failedCommand cX12_failedCommand 1 (some .int) :: gAll) ({ frames := 7, cells := 1, slots := 6, locals := 120 }) (va_Pc [.ref b] (mm_Pre G w sz)) (mm_Qi G w sz (fun r w' => X.1 = 0 ∧ r = X.2 ∧ w' = w)) (mm_QX G w sz (fun E w' => X.1 ≠ 0 ∧ E = mm_ex X.1 ∧ w' = w)) 1 6 (va_A w sz) := by
  refine mm_xheadI hfl [.ref b] (by decide +kernel) rfl (Nat.le_of_ble_eq_true rfl) rfl rfl ?_
  intro p e s m args below meth c A Q hsz hC hM hret hprop hthrow ls hl
  have hx := hC.1.1
  have hb := hC.1.2.1
  have hl : lv_has ls 1 [(0, .ref b)] := hl
  rw [f_X12_failedCommand] at hf
  refine lv_aload_n hx hb dX12_failedCommand_0 rfl (lv_at hl 0 rfl) ?_
  refine mm_get hC hM (k := 11) hp_this.1 rfl inAX12 (by decide) q2_27 rfl dX12_failedCommand_1 ?_
  refine lv_iconst (v := (-1)) hx hb dX12_failedCommand_4 (by decide) ?_
  refine lv_icmp_ne (tgt := 16) hx hb dX12_failedCommand_5 (by decide) (fun hcd => ?_) (fun hcd => ?_)
  · rw [if_neg hcd] at hf
    refine lv_aload_n hx hb dX12_failedCommand_16 rfl (lv_at hl 0 rfl) ?_
    refine mm_get hC hM (k := 11) hp_this.1 rfl inAX12 (by decide) q2_27 rfl dX12_failedCommand_17 ?_
    cases hf
    exact hret hM dX12_failedCommand_20 rfl ⟨rfl, rfl, rfl⟩ (Nat.le_of_ble_eq_true rfl) (Nat.le_of_ble_eq_true rfl)
  · rw [if_pos hcd] at hf
    cases hf
    exact hthrow (names := ["java/lang/RuntimeException", "java/lang/Exception"]) hM hl.1 (by decide +kernel) (by decide +kernel) q3_223 q1_20 vxa_2 vxb_2 dX12_failedCommand_8 dX12_failedCommand_11 dX12_failedCommand_12 dX12_failedCommand_15 (by decide) (Nat.le_of_ble_eq_true rfl) (Nat.le_of_ble_eq_true rfl) (Nat.le_of_ble_eq_true rfl) ⟨(by simp), rfl, rfl⟩
def f_X12_describeRow_L27 (K : Nat) (marsh_reeds_states : Nat → Int32) (marsh_fleet_numbers : Nat → Int32) (marsh_fleet_cells : Nat → Int32) (marsh_fleet_count : Int32) (x1 : Int32) : Nat → (Int32) → (Nat → Int32) → (Int32) → Option ((Nat → Int32) × Int32)
  | 0, _, _, _ => none
  | n + 1, x2, line_signs, line_length => if 9 ≤ x2 then some (line_signs, line_length) else (f_X6_signOf K marsh_reeds_states marsh_fleet_numbers marsh_fleet_cells marsh_fleet_count ((x1 * 9) + x2)).bind fun q47 => (f_X10_put line_signs line_length q47).bind fun q50 => f_X12_describeRow_L27 K marsh_reeds_states marsh_fleet_numbers marsh_fleet_cells marsh_fleet_count x1 n (x2 + 1) q50.2.1 q50.2.2
def f_X12_describeRow (K : Nat) (marsh_reeds_states : Nat → Int32) (marsh_fleet_numbers : Nat → Int32) (marsh_fleet_cells : Nat → Int32) (marsh_fleet_count : Int32) (line_signs : Nat → Int32) (line_length : Int32) (x1 : Int32) : Option (Nat × Int32 × (Nat → Int32) × Int32) := if x1 < 0 then some (1, 0, line_signs, line_length) else if x1 < 9 then (f_X10_wipe).bind fun q22 => (f_X12_describeRow_L27 K marsh_reeds_states marsh_fleet_numbers marsh_fleet_cells marsh_fleet_count x1 K 0 line_signs q22).bind fun q27 => some (0, q27.2, q27.1, q27.2) else some (1, 0, line_signs, line_length)
set_option maxHeartbeats 4000000 in
set_option maxRecDepth 100000 in
theorem c_X12_describeRow (l : Launch) (hfl : l.stackTraces = false) {G : mm_G} {K : Nat} {w : va_W} {sz : Nat} {b : Nat} {marsh_reeds_states : Nat → Int32} {marsh_reeds_count : Int32} {marsh_reeds_broken : Int32} {marsh_fleet_numbers : Nat → Int32} {marsh_fleet_cells : Nat → Int32} {marsh_fleet_fares : Nat → Int32} {marsh_fleet_count : Int32} {marsh_fleet_nextNumber : Int32} {marsh_fleet_total : Int32} {marsh_fleet_removedFares : Int32} {marsh_fleet_meetings : Int32} {marsh_plans_moves : Nat → Int32} {marsh_plans_lengths : Nat → Int32} {marsh_landings_cells : Nat → Int32} {marsh_landings_count : Int32} {marsh_fogSide : Int32} {snapshot_reeds_states : Nat → Int32} {snapshot_reeds_count : Int32} {snapshot_reeds_broken : Int32} {snapshot_fleet_numbers : Nat → Int32} {snapshot_fleet_cells : Nat → Int32} {snapshot_fleet_fares : Nat → Int32} {snapshot_fleet_count : Int32} {snapshot_fleet_nextNumber : Int32} {snapshot_fleet_total : Int32} {snapshot_fleet_removedFares : Int32} {snapshot_fleet_meetings : Int32} {snapshot_plans_moves : Nat → Int32} {snapshot_plans_lengths : Nat → Int32} {snapshot_landings_cells : Nat → Int32} {snapshot_landings_count : Int32} {snapshot_fogSide : Int32} {history_slots : Nat → mm_MV} {history_free : Int32} {history_count : Int32} {ways_tolls : Nat → Int32} {ways_queue : Nat → Int32} {ways_heap : Nat → Int32} {ways_heapSize : Int32} {ways_found : Nat → Int32} {ways_improved : Nat → Int32} {pairing_costs : Nat → Int32} {pairing_best : Nat → Int32} {reader_kinds : Nat → Int32} {reader_starts : Nat → Int32} {reader_count : Int32} {commandText_signs : Nat → Int32} {commandText_length : Int32} {line_signs : Nat → Int32} {line_length : Int32} {spareMoves : Nat → Int32} {snapshotTaken : Int32} {lastErrorPosition : Int32} {lastFailedCommand : Int32} {x1 : Int32} {X : Nat × Int32 × (Nat → Int32) × Int32} (hf : f_X12_describeRow K marsh_reeds_states marsh_fleet_numbers marsh_fleet_cells marsh_fleet_count line_signs line_length x1 = some X) (hp_this : At12 G w b marsh_reeds_states marsh_reeds_count marsh_reeds_broken marsh_fleet_numbers marsh_fleet_cells marsh_fleet_fares marsh_fleet_count marsh_fleet_nextNumber marsh_fleet_total marsh_fleet_removedFares marsh_fleet_meetings marsh_plans_moves marsh_plans_lengths marsh_landings_cells marsh_landings_count marsh_fogSide snapshot_reeds_states snapshot_reeds_count snapshot_reeds_broken snapshot_fleet_numbers snapshot_fleet_cells snapshot_fleet_fares snapshot_fleet_count snapshot_fleet_nextNumber snapshot_fleet_total snapshot_fleet_removedFares snapshot_fleet_meetings snapshot_plans_moves snapshot_plans_lengths snapshot_landings_cells snapshot_landings_count snapshot_fogSide history_slots history_free history_count ways_tolls ways_queue ways_heap ways_heapSize ways_found ways_improved pairing_costs pairing_best reader_kinds reader_starts reader_count commandText_signs commandText_length line_signs line_length spareMoves snapshotTaken lastErrorPosition lastFailedCommand) : vx_Met l yX12_describeRow (Cond.code yX12_describeRow cX12_describeRow 3 (some .int) :: gAll) ({ frames := 7, cells := 1, slots := 6, locals := 120 }) (va_Pc [.ref b, .int x1] (mm_Pre G w sz)) (mm_Qi G w sz (fun r w' => X.1 = 0 ∧ r = X.2.1 ∧ At12 G w' b marsh_reeds_states marsh_reeds_count marsh_reeds_broken marsh_fleet_numbers marsh_fleet_cells marsh_fleet_fares marsh_fleet_count marsh_fleet_nextNumber marsh_fleet_total marsh_fleet_removedFares marsh_fleet_meetings marsh_plans_moves marsh_plans_lengths marsh_landings_cells marsh_landings_count marsh_fogSide snapshot_reeds_states snapshot_reeds_count snapshot_reeds_broken snapshot_fleet_numbers snapshot_fleet_cells snapshot_fleet_fares snapshot_fleet_count snapshot_fleet_nextNumber snapshot_fleet_total snapshot_fleet_removedFares snapshot_fleet_meetings snapshot_plans_moves snapshot_plans_lengths snapshot_landings_cells snapshot_landings_count snapshot_fogSide history_slots history_free history_count ways_tolls ways_queue ways_heap ways_heapSize ways_found ways_improved pairing_costs pairing_best reader_kinds reader_starts reader_count commandText_signs commandText_length X.2.2.1 X.2.2.2 spareMoves snapshotTaken lastErrorPosition lastFailedCommand ∧ mm_fr w w' b (b + 152))) (mm_QX G w sz (fun E w' => X.1 ≠ 0 ∧ E = mm_ex X.1 ∧ At12 G w' b marsh_reeds_states marsh_reeds_count marsh_reeds_broken marsh_fleet_numbers marsh_fleet_cells marsh_fleet_fares marsh_fleet_count marsh_fleet_nextNumber marsh_fleet_total marsh_fleet_removedFares marsh_fleet_meetings marsh_plans_moves marsh_plans_lengths marsh_landings_cells marsh_landings_count marsh_fogSide snapshot_reeds_states snapshot_reeds_count snapshot_reeds_broken snapshot_fleet_numbers snapshot_fleet_cells snapshot_fleet_fares snapshot_fleet_count snapshot_fleet_nextNumber snapshot_fleet_total snapshot_fleet_removedFares snapshot_fleet_meetings snapshot_plans_moves snapshot_plans_lengths snapshot_landings_cells snapshot_landings_count snapshot_fogSide history_slots history_free history_count ways_tolls ways_queue ways_heap ways_heapSize ways_found ways_improved pairing_costs pairing_best reader_kinds reader_starts reader_count commandText_signs commandText_length X.2.2.1 X.2.2.2 spareMoves snapshotTaken lastErrorPosition lastFailedCommand ∧ mm_fr w w' b (b + 152))) 1 6 (va_A w sz) := by
  refine mm_xheadI hfl [.ref b, .int x1] (by decide +kernel) rfl (Nat.le_of_ble_eq_true rfl) rfl rfl ?_
  intro p e s m args below meth c A Q hsz hC hM hret hprop hthrow ls hl
  have hx := hC.1.1
  have hb := hC.1.2.1
  have hl : lv_has ls 3 [(0, .ref b), (1, .int x1)] := hl
  have hF : mm_fr w w b (b + 152) := mm_fr.rf
  rw [f_X12_describeRow] at hf
  obtain ⟨hc_this, hp_this_marsh, hp_this_snapshot, hp_this_history, hp_this_ways, hp_this_pairing, hp_this_reader, hp_this_commandText, hp_this_line, hp_this_spareMoves⟩ := hp_this
  refine lv_iload_n hx hb dX12_describeRow_0 rfl (lv_at hl 1 rfl) ?_
  refine lv_if_lt (tgt := 10) hx hb dX12_describeRow_1 (by decide) (fun hcd => ?_) (fun hcd => ?_)
  · rw [if_pos hcd] at hf
    cases hf
    exact hthrow (names := ["java/lang/RuntimeException", "java/lang/Exception"]) hM hl.1 (by decide +kernel) (by decide +kernel) q3_202 q1_16 vxa_1 vxb_1 dX12_describeRow_10 dX12_describeRow_13 dX12_describeRow_14 dX12_describeRow_17 (by decide) (Nat.le_of_ble_eq_true rfl) (Nat.le_of_ble_eq_true rfl) (Nat.le_of_ble_eq_true rfl) ⟨(by simp), rfl, ⟨hc_this, hp_this_marsh, hp_this_snapshot, hp_this_history, hp_this_ways, hp_this_pairing, hp_this_reader, hp_this_commandText, hp_this_line, hp_this_spareMoves⟩, hF⟩
  · rw [if_neg hcd] at hf
    refine lv_iload_n hx hb dX12_describeRow_4 rfl (lv_at hl 1 rfl) ?_
    refine lv_bipush (v := 9) hx hb dX12_describeRow_5 (by decide) ?_
    refine lv_icmp_lt (tgt := 18) hx hb dX12_describeRow_7 (by decide) (fun hcd => ?_) (fun hcd => ?_)
    · rw [if_pos hcd] at hf
      refine lv_aload_n hx hb dX12_describeRow_18 rfl (lv_at hl 0 rfl) ?_
      refine mm_get hC hM (k := 7) hc_this rfl inAX12 (by decide) q2_23 rfl dX12_describeRow_19 ?_
      obtain ⟨q22, hq22, hf⟩ := mm_bd hf
      refine mm_Vv (rest := []) hC hM (c_X10_wipe l hq22 hp_this_line) q6_103 q1_11 ykX10_wipe q6_100 q6_101 q6_102 hp_this_line.1 rfl ⟨rfl, rfl⟩ ⟨Nat.le_of_ble_eq_true rfl, Nat.le_of_ble_eq_true rfl⟩ rfl hl.1 rfl (Nat.le_of_ble_eq_true rfl) dX12_describeRow_22 ⟨Nat.le_of_ble_eq_true rfl, Nat.le_of_ble_eq_true rfl⟩ (fun w22 H locs hM hw => ?_)
      obtain ⟨hn_this, hfr⟩ := hw
      have hc_this := hfr.keep hc_this (by omega)
      have hp_this_spareMoves := hfr.keep hp_this_spareMoves (by omega)
      have hp_this_marsh := hp_this_marsh.keep hfr (by omega)
      have hp_this_snapshot := hp_this_snapshot.keep hfr (by omega)
      have hp_this_history := hp_this_history.keep hfr (by omega)
      have hp_this_ways := hp_this_ways.keep hfr (by omega)
      have hp_this_pairing := hp_this_pairing.keep hfr (by omega)
      have hp_this_reader := hp_this_reader.keep hfr (by omega)
      have hp_this_commandText := hp_this_commandText.keep hfr (by omega)
      have hp_this_line := hn_this
      have hF := hF.tr (hfr.wide (by omega) (by omega))
      refine lv_iconst (v := 0) hx hb dX12_describeRow_25 (by decide) ?_
      refine lv_istore_n (lv' := [(2, .int 0), (0, .ref b), (1, .int x1)]) hx hb dX12_describeRow_26 rfl hl (by decide) rfl (fun ls hl => ?_)
      have L27 : ∀ (n : Nat) (L27_x2 : Int32) (L27_line_signs : Nat → Int32) (L27_line_length : Int32) (X : (Nat → Int32) × Int32), f_X12_describeRow_L27 K marsh_reeds_states marsh_fleet_numbers marsh_fleet_cells marsh_fleet_count x1 n L27_x2 L27_line_signs L27_line_length = some X → ∀ (L27_w : va_W) (H : Heap) (locs : List Loc), mm_S G A s.heap L27_w H locs → (b, (.inr (12, [.ref (b + 1), .ref (b + 13), .ref (b + 25), .ref (b + 135), .ref (b + 141), .ref (b + 144), .ref (b + 147), .ref (b + 149), .ref (b + 151), .int snapshotTaken, .int lastErrorPosition, .int lastFailedCommand]) : va_E)) ∈ L27_w → (b + 151, (.inl (G.2 0, 20, .inl spareMoves) : va_E)) ∈ L27_w → At6 G L27_w (b + 1) marsh_reeds_states marsh_reeds_count marsh_reeds_broken marsh_fleet_numbers marsh_fleet_cells marsh_fleet_fares marsh_fleet_count marsh_fleet_nextNumber marsh_fleet_total marsh_fleet_removedFares marsh_fleet_meetings marsh_plans_moves marsh_plans_lengths marsh_landings_cells marsh_landings_count marsh_fogSide → At6 G L27_w (b + 13) snapshot_reeds_states snapshot_reeds_count snapshot_reeds_broken snapshot_fleet_numbers snapshot_fleet_cells snapshot_fleet_fares snapshot_fleet_count snapshot_fleet_nextNumber snapshot_fleet_total snapshot_fleet_removedFares snapshot_fleet_meetings snapshot_plans_moves snapshot_plans_lengths snapshot_landings_cells snapshot_landings_count snapshot_fogSide → At4 G L27_w (b + 25) history_slots history_free history_count → At11 G L27_w (b + 135) ways_tolls ways_queue ways_heap ways_heapSize ways_found ways_improved → At7 G L27_w (b + 141) pairing_costs pairing_best → At2 G L27_w (b + 144) reader_kinds reader_starts reader_count → At10 G L27_w (b + 147) commandText_signs commandText_length → At10 G L27_w (b + 149) L27_line_signs L27_line_length → mm_fr w L27_w b (b + 152) → ∀ (ls : Array Slot), lv_has ls 3 [(0, .ref b), (1, .int x1), (2, .int L27_x2)] → (∀ (w9 : va_W) (H : Heap) (locs : List Loc), mm_S G A s.heap w9 H locs → (b, (.inr (12, [.ref (b + 1), .ref (b + 13), .ref (b + 25), .ref (b + 135), .ref (b + 141), .ref (b + 144), .ref (b + 147), .ref (b + 149), .ref (b + 151), .int snapshotTaken, .int lastErrorPosition, .int lastFailedCommand]) : va_E)) ∈ w9 → (b + 151, (.inl (G.2 0, 20, .inl spareMoves) : va_E)) ∈ w9 → At6 G w9 (b + 1) marsh_reeds_states marsh_reeds_count marsh_reeds_broken marsh_fleet_numbers marsh_fleet_cells marsh_fleet_fares marsh_fleet_count marsh_fleet_nextNumber marsh_fleet_total marsh_fleet_removedFares marsh_fleet_meetings marsh_plans_moves marsh_plans_lengths marsh_landings_cells marsh_landings_count marsh_fogSide → At6 G w9 (b + 13) snapshot_reeds_states snapshot_reeds_count snapshot_reeds_broken snapshot_fleet_numbers snapshot_fleet_cells snapshot_fleet_fares snapshot_fleet_count snapshot_fleet_nextNumber snapshot_fleet_total snapshot_fleet_removedFares snapshot_fleet_meetings snapshot_plans_moves snapshot_plans_lengths snapshot_landings_cells snapshot_landings_count snapshot_fogSide → At4 G w9 (b + 25) history_slots history_free history_count → At11 G w9 (b + 135) ways_tolls ways_queue ways_heap ways_heapSize ways_found ways_improved → At7 G w9 (b + 141) pairing_costs pairing_best → At2 G w9 (b + 144) reader_kinds reader_starts reader_count → At10 G w9 (b + 147) commandText_signs commandText_length → At10 G w9 (b + 149) X.1 X.2 → mm_fr w w9 b (b + 152) → ∀ (ls : Array Slot), lv_has ls 3 [(0, .ref b)] → W p l e ({ frames := 7, cells := 1, slots := 6, locals := 120 } : Room) s m args below meth c H locs 0 0 Q (F0 m 60 ls [])) → W p l e ({ frames := 7, cells := 1, slots := 6, locals := 120 } : Room) s m args below meth c H locs 0 0 Q (F0 m 27 ls []) := by
        intro n
        induction n with
        | zero => intro L27_x2 L27_line_signs L27_line_length X hf; cases hf
        | succ n ih =>
          intro L27_x2 L27_line_signs L27_line_length X hf L27_w H locs hM hc_this hp_this_spareMoves hp_this_marsh hp_this_snapshot hp_this_history hp_this_ways hp_this_pairing hp_this_reader hp_this_commandText hp_this_line hF ls hl hk
          rw [f_X12_describeRow_L27] at hf
          refine lv_iload_n hx hb dX12_describeRow_27 rfl (lv_at hl 2 rfl) ?_
          refine lv_bipush (v := 9) hx hb dX12_describeRow_28 (by decide) ?_
          refine lv_icmp_ge (tgt := 60) hx hb dX12_describeRow_30 (by decide) (fun hcd => ?_) (fun hcd => ?_)
          · rw [if_pos hcd] at hf
            cases hf
            exact hk _ _ _ hM hc_this hp_this_spareMoves hp_this_marsh hp_this_snapshot hp_this_history hp_this_ways hp_this_pairing hp_this_reader hp_this_commandText hp_this_line hF _ (lv_sub hl [0] rfl)
          · rw [if_neg hcd] at hf
            refine lv_aload_n hx hb dX12_describeRow_33 rfl (lv_at hl 0 rfl) ?_
            refine mm_get hC hM (k := 7) hc_this rfl inAX12 (by decide) q2_23 rfl dX12_describeRow_34 ?_
            refine lv_aload_n hx hb dX12_describeRow_37 rfl (lv_at hl 0 rfl) ?_
            refine mm_get hC hM (k := 0) hc_this rfl inAX12 (by decide) q2_16 rfl dX12_describeRow_38 ?_
            refine lv_iload_n hx hb dX12_describeRow_41 rfl (lv_at hl 1 rfl) ?_
            refine lv_bipush (v := 9) hx hb dX12_describeRow_42 (by decide) ?_
            refine lv_imul hx hb dX12_describeRow_44 ?_
            refine lv_iload_n hx hb dX12_describeRow_45 rfl (lv_at hl 2 rfl) ?_
            refine lv_iadd hx hb dX12_describeRow_46 ?_
            obtain ⟨q47, hq47, hf⟩ := mm_bd hf
            refine mm_Vi (rest := [.ref (b + 149)]) hC hM (c_X6_signOf l hq47 hp_this_marsh) q6_160 q1_2 ykX6_signOf q6_157 q6_158 q6_159 hp_this_marsh.1 rfl ⟨rfl, rfl⟩ ⟨Nat.le_of_ble_eq_true rfl, Nat.le_of_ble_eq_true rfl⟩ rfl hl.1 rfl (Nat.le_of_ble_eq_true rfl) dX12_describeRow_47 ⟨Nat.le_of_ble_eq_true rfl, Nat.le_of_ble_eq_true rfl⟩ (fun r w47 H locs hM hw => ?_)
            obtain ⟨hr, hw⟩ := hw
            rw [hr]
            rw [hw] at hM
            obtain ⟨q50, hq50, hf⟩ := mm_bd hf
            refine mm_Vi (rest := []) hC hM (c_X10_put l hq50 hp_this_line) q6_4 q1_11 ykX10_put q6_1 q6_2 q6_3 hp_this_line.1 rfl ⟨rfl, rfl⟩ ⟨Nat.le_of_ble_eq_true rfl, Nat.le_of_ble_eq_true rfl⟩ rfl hl.1 rfl (Nat.le_of_ble_eq_true rfl) dX12_describeRow_50 ⟨Nat.le_of_ble_eq_true rfl, Nat.le_of_ble_eq_true rfl⟩ (fun r w50 H locs hM hw => ?_)
            obtain ⟨hr, hn_this, hfr⟩ := hw
            rw [hr]
            have hc_this := hfr.keep hc_this (by omega)
            have hp_this_spareMoves := hfr.keep hp_this_spareMoves (by omega)
            have hp_this_marsh := hp_this_marsh.keep hfr (by omega)
            have hp_this_snapshot := hp_this_snapshot.keep hfr (by omega)
            have hp_this_history := hp_this_history.keep hfr (by omega)
            have hp_this_ways := hp_this_ways.keep hfr (by omega)
            have hp_this_pairing := hp_this_pairing.keep hfr (by omega)
            have hp_this_reader := hp_this_reader.keep hfr (by omega)
            have hp_this_commandText := hp_this_commandText.keep hfr (by omega)
            have hp_this_line := hn_this
            have hF := hF.tr (hfr.wide (by omega) (by omega))
            refine lv_pop hx hb dX12_describeRow_53 rfl ?_
            refine lv_iinc (v := (L27_x2 + 1)) (lv' := [(2, .int (L27_x2 + 1)), (0, .ref b), (1, .int x1)]) hx hb dX12_describeRow_54 hl (k := 2) rfl rfl (by decide) rfl (fun ls hl => ?_)
            refine lv_goto (tgt := 27) hx hb dX12_describeRow_57 (by decide) ?_
            exact ih _ _ _ _ hf _ _ _ hM hc_this hp_this_spareMoves hp_this_marsh hp_this_snapshot hp_this_history hp_this_ways hp_this_pairing hp_this_reader hp_this_commandText hp_this_line hF _ (lv_sub hl [1, 2, 0] rfl) hk
      obtain ⟨q27, hq27, hf⟩ := mm_bd hf
      refine L27 K _ _ _ _ hq27 _ _ _ hM hc_this hp_this_spareMoves hp_this_marsh hp_this_snapshot hp_this_history hp_this_ways hp_this_pairing hp_this_reader hp_this_commandText hp_this_line hF _ (lv_sub hl [1, 2, 0] rfl) (fun w27 H locs hM hc_this hp_this_spareMoves hp_this_marsh hp_this_snapshot hp_this_history hp_this_ways hp_this_pairing hp_this_reader hp_this_commandText hp_this_line hF ls hl => ?_)
      refine lv_aload_n hx hb dX12_describeRow_60 rfl (lv_at hl 0 rfl) ?_
      refine mm_get hC hM (k := 7) hc_this rfl inAX12 (by decide) q2_23 rfl dX12_describeRow_61 ?_
      refine mm_get hC hM (k := 1) hp_this_line.1 rfl inAX10 (by decide) q2_9 rfl dX12_describeRow_64 ?_
      cases hf
      exact hret hM dX12_describeRow_67 rfl ⟨rfl, rfl, ⟨hc_this, hp_this_marsh, hp_this_snapshot, hp_this_history, hp_this_ways, hp_this_pairing, hp_this_reader, hp_this_commandText, hp_this_line, hp_this_spareMoves⟩, hF⟩ (Nat.le_of_ble_eq_true rfl) (Nat.le_of_ble_eq_true rfl)
    · rw [if_neg hcd] at hf
      cases hf
      exact hthrow (names := ["java/lang/RuntimeException", "java/lang/Exception"]) hM hl.1 (by decide +kernel) (by decide +kernel) q3_202 q1_16 vxa_1 vxb_1 dX12_describeRow_10 dX12_describeRow_13 dX12_describeRow_14 dX12_describeRow_17 (by decide) (Nat.le_of_ble_eq_true rfl) (Nat.le_of_ble_eq_true rfl) (Nat.le_of_ble_eq_true rfl) ⟨(by simp), rfl, ⟨hc_this, hp_this_marsh, hp_this_snapshot, hp_this_history, hp_this_ways, hp_this_pairing, hp_this_reader, hp_this_commandText, hp_this_line, hp_this_spareMoves⟩, hF⟩
def f_X12_describePlan (K : Nat) (marsh_plans_moves : Nat → Int32) (marsh_plans_lengths : Nat → Int32) (line_signs : Nat → Int32) (line_length : Int32) (x1 : Int32) : Option (Nat × Int32 × (Nat → Int32) × Int32) := (f_X12_existingPlan x1).bind fun q1 => if q1.1 = 0 then (f_X10_wipe).bind fun q9 => (f_X8_writeTo K marsh_plans_moves marsh_plans_lengths line_signs q9 q1.2).bind fun q24 => some (0, q24.2, q24.1, q24.2) else some (q1.1, 0, line_signs, line_length)
set_option maxHeartbeats 4000000 in
set_option maxRecDepth 100000 in
theorem c_X12_describePlan (l : Launch) (hfl : l.stackTraces = false) {G : mm_G} {K : Nat} {w : va_W} {sz : Nat} {b : Nat} {marsh_reeds_states : Nat → Int32} {marsh_reeds_count : Int32} {marsh_reeds_broken : Int32} {marsh_fleet_numbers : Nat → Int32} {marsh_fleet_cells : Nat → Int32} {marsh_fleet_fares : Nat → Int32} {marsh_fleet_count : Int32} {marsh_fleet_nextNumber : Int32} {marsh_fleet_total : Int32} {marsh_fleet_removedFares : Int32} {marsh_fleet_meetings : Int32} {marsh_plans_moves : Nat → Int32} {marsh_plans_lengths : Nat → Int32} {marsh_landings_cells : Nat → Int32} {marsh_landings_count : Int32} {marsh_fogSide : Int32} {snapshot_reeds_states : Nat → Int32} {snapshot_reeds_count : Int32} {snapshot_reeds_broken : Int32} {snapshot_fleet_numbers : Nat → Int32} {snapshot_fleet_cells : Nat → Int32} {snapshot_fleet_fares : Nat → Int32} {snapshot_fleet_count : Int32} {snapshot_fleet_nextNumber : Int32} {snapshot_fleet_total : Int32} {snapshot_fleet_removedFares : Int32} {snapshot_fleet_meetings : Int32} {snapshot_plans_moves : Nat → Int32} {snapshot_plans_lengths : Nat → Int32} {snapshot_landings_cells : Nat → Int32} {snapshot_landings_count : Int32} {snapshot_fogSide : Int32} {history_slots : Nat → mm_MV} {history_free : Int32} {history_count : Int32} {ways_tolls : Nat → Int32} {ways_queue : Nat → Int32} {ways_heap : Nat → Int32} {ways_heapSize : Int32} {ways_found : Nat → Int32} {ways_improved : Nat → Int32} {pairing_costs : Nat → Int32} {pairing_best : Nat → Int32} {reader_kinds : Nat → Int32} {reader_starts : Nat → Int32} {reader_count : Int32} {commandText_signs : Nat → Int32} {commandText_length : Int32} {line_signs : Nat → Int32} {line_length : Int32} {spareMoves : Nat → Int32} {snapshotTaken : Int32} {lastErrorPosition : Int32} {lastFailedCommand : Int32} {x1 : Int32} {X : Nat × Int32 × (Nat → Int32) × Int32} (hf : f_X12_describePlan K marsh_plans_moves marsh_plans_lengths line_signs line_length x1 = some X) (hp_this : At12 G w b marsh_reeds_states marsh_reeds_count marsh_reeds_broken marsh_fleet_numbers marsh_fleet_cells marsh_fleet_fares marsh_fleet_count marsh_fleet_nextNumber marsh_fleet_total marsh_fleet_removedFares marsh_fleet_meetings marsh_plans_moves marsh_plans_lengths marsh_landings_cells marsh_landings_count marsh_fogSide snapshot_reeds_states snapshot_reeds_count snapshot_reeds_broken snapshot_fleet_numbers snapshot_fleet_cells snapshot_fleet_fares snapshot_fleet_count snapshot_fleet_nextNumber snapshot_fleet_total snapshot_fleet_removedFares snapshot_fleet_meetings snapshot_plans_moves snapshot_plans_lengths snapshot_landings_cells snapshot_landings_count snapshot_fogSide history_slots history_free history_count ways_tolls ways_queue ways_heap ways_heapSize ways_found ways_improved pairing_costs pairing_best reader_kinds reader_starts reader_count commandText_signs commandText_length line_signs line_length spareMoves snapshotTaken lastErrorPosition lastFailedCommand) : vx_Met l yX12_describePlan (Cond.code yX12_describePlan cX12_describePlan 3 (some .int) :: gAll) ({ frames := 8, cells := 1, slots := 6, locals := 140 }) (va_Pc [.ref b, .int x1] (mm_Pre G w sz)) (mm_Qi G w sz (fun r w' => X.1 = 0 ∧ r = X.2.1 ∧ At12 G w' b marsh_reeds_states marsh_reeds_count marsh_reeds_broken marsh_fleet_numbers marsh_fleet_cells marsh_fleet_fares marsh_fleet_count marsh_fleet_nextNumber marsh_fleet_total marsh_fleet_removedFares marsh_fleet_meetings marsh_plans_moves marsh_plans_lengths marsh_landings_cells marsh_landings_count marsh_fogSide snapshot_reeds_states snapshot_reeds_count snapshot_reeds_broken snapshot_fleet_numbers snapshot_fleet_cells snapshot_fleet_fares snapshot_fleet_count snapshot_fleet_nextNumber snapshot_fleet_total snapshot_fleet_removedFares snapshot_fleet_meetings snapshot_plans_moves snapshot_plans_lengths snapshot_landings_cells snapshot_landings_count snapshot_fogSide history_slots history_free history_count ways_tolls ways_queue ways_heap ways_heapSize ways_found ways_improved pairing_costs pairing_best reader_kinds reader_starts reader_count commandText_signs commandText_length X.2.2.1 X.2.2.2 spareMoves snapshotTaken lastErrorPosition lastFailedCommand ∧ mm_fr w w' b (b + 152))) (mm_QX G w sz (fun E w' => X.1 ≠ 0 ∧ E = mm_ex X.1 ∧ At12 G w' b marsh_reeds_states marsh_reeds_count marsh_reeds_broken marsh_fleet_numbers marsh_fleet_cells marsh_fleet_fares marsh_fleet_count marsh_fleet_nextNumber marsh_fleet_total marsh_fleet_removedFares marsh_fleet_meetings marsh_plans_moves marsh_plans_lengths marsh_landings_cells marsh_landings_count marsh_fogSide snapshot_reeds_states snapshot_reeds_count snapshot_reeds_broken snapshot_fleet_numbers snapshot_fleet_cells snapshot_fleet_fares snapshot_fleet_count snapshot_fleet_nextNumber snapshot_fleet_total snapshot_fleet_removedFares snapshot_fleet_meetings snapshot_plans_moves snapshot_plans_lengths snapshot_landings_cells snapshot_landings_count snapshot_fogSide history_slots history_free history_count ways_tolls ways_queue ways_heap ways_heapSize ways_found ways_improved pairing_costs pairing_best reader_kinds reader_starts reader_count commandText_signs commandText_length X.2.2.1 X.2.2.2 spareMoves snapshotTaken lastErrorPosition lastFailedCommand ∧ mm_fr w w' b (b + 152))) 1 6 (va_A w sz) := by
  refine mm_xheadI hfl [.ref b, .int x1] (by decide +kernel) rfl (Nat.le_of_ble_eq_true rfl) rfl rfl ?_
  intro p e s m args below meth c A Q hsz hC hM hret hprop hthrow ls hl
  have hx := hC.1.1
  have hb := hC.1.2.1
  have hl : lv_has ls 3 [(0, .ref b), (1, .int x1)] := hl
  have hF : mm_fr w w b (b + 152) := mm_fr.rf
  rw [f_X12_describePlan] at hf
  obtain ⟨hc_this, hp_this_marsh, hp_this_snapshot, hp_this_history, hp_this_ways, hp_this_pairing, hp_this_reader, hp_this_commandText, hp_this_line, hp_this_spareMoves⟩ := hp_this
  refine lv_iload_n hx hb dX12_describePlan_0 rfl (lv_at hl 1 rfl) ?_
  obtain ⟨q1, hq1, hf⟩ := mm_bd hf
  refine mm_xSi (rest := []) hC hM (c_X12_existingPlan l hfl hq1) q5_38 q1_1 ykX12_existingPlan q5_36 q5_37 ⟨rfl, rfl⟩ ⟨Nat.le_of_ble_eq_true rfl, Nat.le_of_ble_eq_true rfl⟩ rfl hl.1 rfl (Nat.le_of_ble_eq_true rfl) dX12_describePlan_1 ⟨Nat.le_of_ble_eq_true rfl, Nat.le_of_ble_eq_true rfl⟩ (fun E ce qE w1 H locs hM hw hqE hv9 hcl9 => ?_) (fun r w1 H locs hM hw => ?_)
  · obtain ⟨hne, hE, hw⟩ := hw
    rw [if_neg hne] at hf
    rw [hw] at hM
    cases hf
    exact hprop hM hqE hv9 hcl9 ⟨hne, hE, ⟨hc_this, hp_this_marsh, hp_this_snapshot, hp_this_history, hp_this_ways, hp_this_pairing, hp_this_reader, hp_this_commandText, hp_this_line, hp_this_spareMoves⟩, hF⟩ (Nat.le_of_ble_eq_true rfl) (Nat.le_of_ble_eq_true rfl)
  obtain ⟨h0, hr, hw⟩ := hw
  rw [if_pos h0] at hf
  rw [hr]
  rw [hw] at hM
  refine lv_istore_n (lv' := [(2, .int q1.2), (0, .ref b), (1, .int x1)]) hx hb dX12_describePlan_4 rfl hl (by decide) rfl (fun ls hl => ?_)
  refine lv_aload_n hx hb dX12_describePlan_5 rfl (lv_at hl 1 rfl) ?_
  refine mm_get hC hM (k := 7) hc_this rfl inAX12 (by decide) q2_23 rfl dX12_describePlan_6 ?_
  obtain ⟨q9, hq9, hf⟩ := mm_bd hf
  refine mm_Vv (rest := []) hC hM (c_X10_wipe l hq9 hp_this_line) q6_103 q1_11 ykX10_wipe q6_100 q6_101 q6_102 hp_this_line.1 rfl ⟨rfl, rfl⟩ ⟨Nat.le_of_ble_eq_true rfl, Nat.le_of_ble_eq_true rfl⟩ rfl hl.1 rfl (Nat.le_of_ble_eq_true rfl) dX12_describePlan_9 ⟨Nat.le_of_ble_eq_true rfl, Nat.le_of_ble_eq_true rfl⟩ (fun w9 H locs hM hw => ?_)
  obtain ⟨hn_this, hfr⟩ := hw
  have hc_this := hfr.keep hc_this (by omega)
  have hp_this_spareMoves := hfr.keep hp_this_spareMoves (by omega)
  have hp_this_marsh := hp_this_marsh.keep hfr (by omega)
  have hp_this_snapshot := hp_this_snapshot.keep hfr (by omega)
  have hp_this_history := hp_this_history.keep hfr (by omega)
  have hp_this_ways := hp_this_ways.keep hfr (by omega)
  have hp_this_pairing := hp_this_pairing.keep hfr (by omega)
  have hp_this_reader := hp_this_reader.keep hfr (by omega)
  have hp_this_commandText := hp_this_commandText.keep hfr (by omega)
  have hp_this_line := hn_this
  have hF := hF.tr (hfr.wide (by omega) (by omega))
  refine lv_aload_n hx hb dX12_describePlan_12 rfl (lv_at hl 1 rfl) ?_
  refine mm_get hC hM (k := 0) hc_this rfl inAX12 (by decide) q2_16 rfl dX12_describePlan_13 ?_
  refine mm_get hC hM (k := 2) hp_this_marsh.1 rfl inAX6 (by decide) q1_144 rfl dX12_describePlan_16 ?_
  refine lv_aload_n hx hb dX12_describePlan_19 rfl (lv_at hl 1 rfl) ?_
  refine mm_get hC hM (k := 7) hc_this rfl inAX12 (by decide) q2_23 rfl dX12_describePlan_20 ?_
  refine lv_iload_n hx hb dX12_describePlan_23 rfl (lv_at hl 0 rfl) ?_
  obtain ⟨q24, hq24, hf⟩ := mm_bd hf
  refine mm_Vv (rest := []) hC hM (c_X8_writeTo l hq24 (hp_this_marsh.2.2.2.1) hp_this_line (by omega)) q6_176 q1_5 ykX8_writeTo q6_173 q6_174 q6_175 (hp_this_marsh.2.2.2.1).1 rfl ⟨rfl, rfl⟩ ⟨Nat.le_of_ble_eq_true rfl, Nat.le_of_ble_eq_true rfl⟩ rfl hl.1 rfl (Nat.le_of_ble_eq_true rfl) dX12_describePlan_24 ⟨Nat.le_of_ble_eq_true rfl, Nat.le_of_ble_eq_true rfl⟩ (fun w24 H locs hM hw => ?_)
  obtain ⟨hn_p1, hfr⟩ := hw
  have hc_this := hfr.keep hc_this (by omega)
  have hp_this_spareMoves := hfr.keep hp_this_spareMoves (by omega)
  have hp_this_marsh := hp_this_marsh.keep hfr (by omega)
  have hp_this_snapshot := hp_this_snapshot.keep hfr (by omega)
  have hp_this_history := hp_this_history.keep hfr (by omega)
  have hp_this_ways := hp_this_ways.keep hfr (by omega)
  have hp_this_pairing := hp_this_pairing.keep hfr (by omega)
  have hp_this_reader := hp_this_reader.keep hfr (by omega)
  have hp_this_commandText := hp_this_commandText.keep hfr (by omega)
  have hp_this_line := hn_p1
  have hF := hF.tr (hfr.wide (by omega) (by omega))
  refine lv_aload_n hx hb dX12_describePlan_27 rfl (lv_at hl 1 rfl) ?_
  refine mm_get hC hM (k := 7) hc_this rfl inAX12 (by decide) q2_23 rfl dX12_describePlan_28 ?_
  refine mm_get hC hM (k := 1) hp_this_line.1 rfl inAX10 (by decide) q2_9 rfl dX12_describePlan_31 ?_
  cases hf
  exact hret hM dX12_describePlan_34 rfl ⟨rfl, rfl, ⟨hc_this, hp_this_marsh, hp_this_snapshot, hp_this_history, hp_this_ways, hp_this_pairing, hp_this_reader, hp_this_commandText, hp_this_line, hp_this_spareMoves⟩, hF⟩ (Nat.le_of_ble_eq_true rfl) (Nat.le_of_ble_eq_true rfl)
def f_X12_lineAt (line_signs : Nat → Int32) (line_length : Int32) (x1 : Int32) : Option (Nat × Int32) := if x1 < 0 then some (1, 0) else if x1 < line_length then (f_X10_signAt line_signs line_length x1).bind fun q28 => mm_g (decide (vp_nar .char q28 = q28)) (some (0, q28)) else some (1, 0)
set_option maxHeartbeats 4000000 in
set_option maxRecDepth 100000 in
theorem c_X12_lineAt (l : Launch) (hfl : l.stackTraces = false) {G : mm_G} {w : va_W} {sz : Nat} {b : Nat} {marsh_reeds_states : Nat → Int32} {marsh_reeds_count : Int32} {marsh_reeds_broken : Int32} {marsh_fleet_numbers : Nat → Int32} {marsh_fleet_cells : Nat → Int32} {marsh_fleet_fares : Nat → Int32} {marsh_fleet_count : Int32} {marsh_fleet_nextNumber : Int32} {marsh_fleet_total : Int32} {marsh_fleet_removedFares : Int32} {marsh_fleet_meetings : Int32} {marsh_plans_moves : Nat → Int32} {marsh_plans_lengths : Nat → Int32} {marsh_landings_cells : Nat → Int32} {marsh_landings_count : Int32} {marsh_fogSide : Int32} {snapshot_reeds_states : Nat → Int32} {snapshot_reeds_count : Int32} {snapshot_reeds_broken : Int32} {snapshot_fleet_numbers : Nat → Int32} {snapshot_fleet_cells : Nat → Int32} {snapshot_fleet_fares : Nat → Int32} {snapshot_fleet_count : Int32} {snapshot_fleet_nextNumber : Int32} {snapshot_fleet_total : Int32} {snapshot_fleet_removedFares : Int32} {snapshot_fleet_meetings : Int32} {snapshot_plans_moves : Nat → Int32} {snapshot_plans_lengths : Nat → Int32} {snapshot_landings_cells : Nat → Int32} {snapshot_landings_count : Int32} {snapshot_fogSide : Int32} {history_slots : Nat → mm_MV} {history_free : Int32} {history_count : Int32} {ways_tolls : Nat → Int32} {ways_queue : Nat → Int32} {ways_heap : Nat → Int32} {ways_heapSize : Int32} {ways_found : Nat → Int32} {ways_improved : Nat → Int32} {pairing_costs : Nat → Int32} {pairing_best : Nat → Int32} {reader_kinds : Nat → Int32} {reader_starts : Nat → Int32} {reader_count : Int32} {commandText_signs : Nat → Int32} {commandText_length : Int32} {line_signs : Nat → Int32} {line_length : Int32} {spareMoves : Nat → Int32} {snapshotTaken : Int32} {lastErrorPosition : Int32} {lastFailedCommand : Int32} {x1 : Int32} {X : Nat × Int32} (hf : f_X12_lineAt line_signs line_length x1 = some X) (hp_this : At12 G w b marsh_reeds_states marsh_reeds_count marsh_reeds_broken marsh_fleet_numbers marsh_fleet_cells marsh_fleet_fares marsh_fleet_count marsh_fleet_nextNumber marsh_fleet_total marsh_fleet_removedFares marsh_fleet_meetings marsh_plans_moves marsh_plans_lengths marsh_landings_cells marsh_landings_count marsh_fogSide snapshot_reeds_states snapshot_reeds_count snapshot_reeds_broken snapshot_fleet_numbers snapshot_fleet_cells snapshot_fleet_fares snapshot_fleet_count snapshot_fleet_nextNumber snapshot_fleet_total snapshot_fleet_removedFares snapshot_fleet_meetings snapshot_plans_moves snapshot_plans_lengths snapshot_landings_cells snapshot_landings_count snapshot_fogSide history_slots history_free history_count ways_tolls ways_queue ways_heap ways_heapSize ways_found ways_improved pairing_costs pairing_best reader_kinds reader_starts reader_count commandText_signs commandText_length line_signs line_length spareMoves snapshotTaken lastErrorPosition lastFailedCommand) : vx_Met l yX12_lineAt (Cond.code yX12_lineAt cX12_lineAt 2 (some .char) :: gAll) ({ frames := 7, cells := 1, slots := 6, locals := 120 }) (va_Pc [.ref b, .int x1] (mm_Pre G w sz)) (mm_Qi G w sz (fun r w' => X.1 = 0 ∧ r = X.2 ∧ w' = w)) (mm_QX G w sz (fun E w' => X.1 ≠ 0 ∧ E = mm_ex X.1 ∧ w' = w)) 1 6 (va_A w sz) := by
  refine mm_xheadI hfl [.ref b, .int x1] (by decide +kernel) rfl (Nat.le_of_ble_eq_true rfl) rfl rfl ?_
  intro p e s m args below meth c A Q hsz hC hM hret hprop hthrow ls hl
  have hx := hC.1.1
  have hb := hC.1.2.1
  have hl : lv_has ls 2 [(0, .ref b), (1, .int x1)] := hl
  rw [f_X12_lineAt] at hf
  refine lv_iload_n hx hb dX12_lineAt_0 rfl (lv_at hl 1 rfl) ?_
  refine lv_if_lt (tgt := 15) hx hb dX12_lineAt_1 (by decide) (fun hcd => ?_) (fun hcd => ?_)
  · rw [if_pos hcd] at hf
    cases hf
    exact hthrow (names := ["java/lang/RuntimeException", "java/lang/Exception"]) hM hl.1 (by decide +kernel) (by decide +kernel) q3_202 q1_16 vxa_1 vxb_1 dX12_lineAt_15 dX12_lineAt_18 dX12_lineAt_19 dX12_lineAt_22 (by decide) (Nat.le_of_ble_eq_true rfl) (Nat.le_of_ble_eq_true rfl) (Nat.le_of_ble_eq_true rfl) ⟨(by simp), rfl, rfl⟩
  · rw [if_neg hcd] at hf
    refine lv_iload_n hx hb dX12_lineAt_4 rfl (lv_at hl 1 rfl) ?_
    refine lv_aload_n hx hb dX12_lineAt_5 rfl (lv_at hl 0 rfl) ?_
    refine mm_get hC hM (k := 7) hp_this.1 rfl inAX12 (by decide) q2_23 rfl dX12_lineAt_6 ?_
    refine mm_get hC hM (k := 1) (hp_this.2.2.2.2.2.2.2.2.1).1 rfl inAX10 (by decide) q2_9 rfl dX12_lineAt_9 ?_
    refine lv_icmp_lt (tgt := 23) hx hb dX12_lineAt_12 (by decide) (fun hcd => ?_) (fun hcd => ?_)
    · rw [if_pos hcd] at hf
      refine lv_aload_n hx hb dX12_lineAt_23 rfl (lv_at hl 0 rfl) ?_
      refine mm_get hC hM (k := 7) hp_this.1 rfl inAX12 (by decide) q2_23 rfl dX12_lineAt_24 ?_
      refine lv_iload_n hx hb dX12_lineAt_27 rfl (lv_at hl 1 rfl) ?_
      obtain ⟨q28, hq28, hf⟩ := mm_bd hf
      refine mm_Vi (rest := []) hC hM (c_X10_signAt l hq28 (hp_this.2.2.2.2.2.2.2.2.1)) q6_76 q1_11 ykX10_signAt q6_131 q6_74 q6_75 (hp_this.2.2.2.2.2.2.2.2.1).1 rfl ⟨rfl, rfl⟩ ⟨Nat.le_of_ble_eq_true rfl, Nat.le_of_ble_eq_true rfl⟩ rfl hl.1 rfl (Nat.le_of_ble_eq_true rfl) dX12_lineAt_28 ⟨Nat.le_of_ble_eq_true rfl, Nat.le_of_ble_eq_true rfl⟩ (fun r w28 H locs hM hw => ?_)
      obtain ⟨hr, hw⟩ := hw
      rw [hr]
      rw [hw] at hM
      obtain ⟨hgr, hf⟩ := mm_gb hf
      cases hf
      exact hret hM dX12_lineAt_31 (mm_narC (of_decide_eq_true hgr)) ⟨rfl, rfl, rfl⟩ (Nat.le_of_ble_eq_true rfl) (Nat.le_of_ble_eq_true rfl)
    · rw [if_neg hcd] at hf
      cases hf
      exact hthrow (names := ["java/lang/RuntimeException", "java/lang/Exception"]) hM hl.1 (by decide +kernel) (by decide +kernel) q3_202 q1_16 vxa_1 vxb_1 dX12_lineAt_15 dX12_lineAt_18 dX12_lineAt_19 dX12_lineAt_22 (by decide) (Nat.le_of_ble_eq_true rfl) (Nat.le_of_ble_eq_true rfl) (Nat.le_of_ble_eq_true rfl) ⟨(by simp), rfl, rfl⟩
def f_X12_meanFares (K : Nat) (marsh_fleet_fares : Nat → Int32) (marsh_fleet_count : Int32) : Option (Nat × UInt64) := if marsh_fleet_count = 0 then some (6, 0) else (f_X3_presentFares K marsh_fleet_fares marsh_fleet_count).bind fun q28 => mm_g (decide ((FP.ddiv (FP.i2d q28) (FP.i2d marsh_fleet_count)) &&& 0x7fffffffffffffff ≤ 0x7ff0000000000000)) (some (0, (FP.ddiv (FP.i2d q28) (FP.i2d marsh_fleet_count))))
set_option maxHeartbeats 4000000 in
set_option maxRecDepth 100000 in
theorem c_X12_meanFares (l : Launch) (hfl : l.stackTraces = false) {G : mm_G} {K : Nat} {w : va_W} {sz : Nat} {b : Nat} {marsh_reeds_states : Nat → Int32} {marsh_reeds_count : Int32} {marsh_reeds_broken : Int32} {marsh_fleet_numbers : Nat → Int32} {marsh_fleet_cells : Nat → Int32} {marsh_fleet_fares : Nat → Int32} {marsh_fleet_count : Int32} {marsh_fleet_nextNumber : Int32} {marsh_fleet_total : Int32} {marsh_fleet_removedFares : Int32} {marsh_fleet_meetings : Int32} {marsh_plans_moves : Nat → Int32} {marsh_plans_lengths : Nat → Int32} {marsh_landings_cells : Nat → Int32} {marsh_landings_count : Int32} {marsh_fogSide : Int32} {snapshot_reeds_states : Nat → Int32} {snapshot_reeds_count : Int32} {snapshot_reeds_broken : Int32} {snapshot_fleet_numbers : Nat → Int32} {snapshot_fleet_cells : Nat → Int32} {snapshot_fleet_fares : Nat → Int32} {snapshot_fleet_count : Int32} {snapshot_fleet_nextNumber : Int32} {snapshot_fleet_total : Int32} {snapshot_fleet_removedFares : Int32} {snapshot_fleet_meetings : Int32} {snapshot_plans_moves : Nat → Int32} {snapshot_plans_lengths : Nat → Int32} {snapshot_landings_cells : Nat → Int32} {snapshot_landings_count : Int32} {snapshot_fogSide : Int32} {history_slots : Nat → mm_MV} {history_free : Int32} {history_count : Int32} {ways_tolls : Nat → Int32} {ways_queue : Nat → Int32} {ways_heap : Nat → Int32} {ways_heapSize : Int32} {ways_found : Nat → Int32} {ways_improved : Nat → Int32} {pairing_costs : Nat → Int32} {pairing_best : Nat → Int32} {reader_kinds : Nat → Int32} {reader_starts : Nat → Int32} {reader_count : Int32} {commandText_signs : Nat → Int32} {commandText_length : Int32} {line_signs : Nat → Int32} {line_length : Int32} {spareMoves : Nat → Int32} {snapshotTaken : Int32} {lastErrorPosition : Int32} {lastFailedCommand : Int32} {X : Nat × UInt64} (hf : f_X12_meanFares K marsh_fleet_fares marsh_fleet_count = some X) (hp_this : At12 G w b marsh_reeds_states marsh_reeds_count marsh_reeds_broken marsh_fleet_numbers marsh_fleet_cells marsh_fleet_fares marsh_fleet_count marsh_fleet_nextNumber marsh_fleet_total marsh_fleet_removedFares marsh_fleet_meetings marsh_plans_moves marsh_plans_lengths marsh_landings_cells marsh_landings_count marsh_fogSide snapshot_reeds_states snapshot_reeds_count snapshot_reeds_broken snapshot_fleet_numbers snapshot_fleet_cells snapshot_fleet_fares snapshot_fleet_count snapshot_fleet_nextNumber snapshot_fleet_total snapshot_fleet_removedFares snapshot_fleet_meetings snapshot_plans_moves snapshot_plans_lengths snapshot_landings_cells snapshot_landings_count snapshot_fogSide history_slots history_free history_count ways_tolls ways_queue ways_heap ways_heapSize ways_found ways_improved pairing_costs pairing_best reader_kinds reader_starts reader_count commandText_signs commandText_length line_signs line_length spareMoves snapshotTaken lastErrorPosition lastFailedCommand) : vx_Met l yX12_meanFares (Cond.code yX12_meanFares cX12_meanFares 1 (some .double) :: gAll) ({ frames := 7, cells := 1, slots := 6, locals := 120 }) (va_Pc [.ref b] (mm_Pre G w sz)) (mm_Qd G w sz (fun r w' => X.1 = 0 ∧ r = X.2 ∧ w' = w)) (mm_QX G w sz (fun E w' => X.1 ≠ 0 ∧ E = mm_ex X.1 ∧ w' = w)) 1 6 (va_A w sz) := by
  refine mm_xheadD hfl [.ref b] (by decide +kernel) rfl (Nat.le_of_ble_eq_true rfl) rfl rfl ?_
  intro p e s m args below meth c A Q hsz hC hM hret hprop hthrow ls hl
  have hx := hC.1.1
  have hb := hC.1.2.1
  have hl : lv_has ls 1 [(0, .ref b)] := hl
  rw [f_X12_meanFares] at hf
  refine lv_aload_n hx hb dX12_meanFares_0 rfl (lv_at hl 0 rfl) ?_
  refine mm_get hC hM (k := 0) hp_this.1 rfl inAX12 (by decide) q2_16 rfl dX12_meanFares_1 ?_
  refine mm_get hC hM (k := 1) (hp_this.2.1).1 rfl inAX6 (by decide) q1_142 rfl dX12_meanFares_4 ?_
  refine mm_get hC hM (k := 3) ((hp_this.2.1).2.2.1).1 rfl inAX3 (by decide) q1_83 rfl dX12_meanFares_7 ?_
  refine lv_if_ne (tgt := 21) hx hb dX12_meanFares_10 (by decide) (fun hcd => ?_) (fun hcd => ?_)
  · rw [if_neg hcd] at hf
    refine lv_aload_n hx hb dX12_meanFares_21 rfl (lv_at hl 0 rfl) ?_
    refine mm_get hC hM (k := 0) hp_this.1 rfl inAX12 (by decide) q2_16 rfl dX12_meanFares_22 ?_
    refine mm_get hC hM (k := 1) (hp_this.2.1).1 rfl inAX6 (by decide) q1_142 rfl dX12_meanFares_25 ?_
    obtain ⟨q28, hq28, hf⟩ := mm_bd hf
    refine mm_Vi (rest := []) hC hM (c_X3_presentFares l hq28 ((hp_this.2.1).2.2.1)) q2_113 q1_4 ykX3_presentFares q2_110 q2_111 q2_112 ((hp_this.2.1).2.2.1).1 rfl ⟨rfl, rfl⟩ ⟨Nat.le_of_ble_eq_true rfl, Nat.le_of_ble_eq_true rfl⟩ rfl hl.1 rfl (Nat.le_of_ble_eq_true rfl) dX12_meanFares_28 ⟨Nat.le_of_ble_eq_true rfl, Nat.le_of_ble_eq_true rfl⟩ (fun r w28 H locs hM hw => ?_)
    obtain ⟨hr, hw⟩ := hw
    rw [hr]
    rw [hw] at hM
    refine lv_i2d hx hb dX12_meanFares_31 ?_
    refine lv_aload_n hx hb dX12_meanFares_32 rfl (lv_at hl 0 rfl) ?_
    refine mm_get hC hM (k := 0) hp_this.1 rfl inAX12 (by decide) q2_16 rfl dX12_meanFares_33 ?_
    refine mm_get hC hM (k := 1) (hp_this.2.1).1 rfl inAX6 (by decide) q1_142 rfl dX12_meanFares_36 ?_
    refine mm_get hC hM (k := 3) ((hp_this.2.1).2.2.1).1 rfl inAX3 (by decide) q1_83 rfl dX12_meanFares_39 ?_
    refine lv_i2d hx hb dX12_meanFares_42 ?_
    obtain ⟨hg43, hf⟩ := mm_gb hf
    refine lv_ddiv hx hb dX12_meanFares_43 (mm_n64 hg43) ?_
    cases hf
    exact hret hM dX12_meanFares_44 ⟨rfl, rfl, rfl⟩ (Nat.le_of_ble_eq_true rfl) (Nat.le_of_ble_eq_true rfl)
  · rw [if_pos hcd] at hf
    cases hf
    exact hthrow (names := ["java/lang/RuntimeException", "java/lang/Exception"]) hM hl.1 (by decide +kernel) (by decide +kernel) q6_212 q1_32 vxa_6 vxb_6 dX12_meanFares_13 dX12_meanFares_16 dX12_meanFares_17 dX12_meanFares_20 (by decide) (Nat.le_of_ble_eq_true rfl) (Nat.le_of_ble_eq_true rfl) (Nat.le_of_ble_eq_true rfl) ⟨(by simp), rfl, rfl⟩
def f_X12_passableShare (K : Nat) (marsh_reeds_states : Nat → Int32) : Option (UInt32) := (f_X9_openCells K marsh_reeds_states).bind fun q7 => mm_g (decide ((FP.fdiv (FP.i2f q7) 1117913088) &&& 0x7fffffff ≤ 0x7f800000)) (some (FP.fdiv (FP.i2f q7) 1117913088))
set_option maxHeartbeats 4000000 in
set_option maxRecDepth 100000 in
theorem c_X12_passableShare (l : Launch) {G : mm_G} {K : Nat} {w : va_W} {sz : Nat} {b : Nat} {marsh_reeds_states : Nat → Int32} {marsh_reeds_count : Int32} {marsh_reeds_broken : Int32} {marsh_fleet_numbers : Nat → Int32} {marsh_fleet_cells : Nat → Int32} {marsh_fleet_fares : Nat → Int32} {marsh_fleet_count : Int32} {marsh_fleet_nextNumber : Int32} {marsh_fleet_total : Int32} {marsh_fleet_removedFares : Int32} {marsh_fleet_meetings : Int32} {marsh_plans_moves : Nat → Int32} {marsh_plans_lengths : Nat → Int32} {marsh_landings_cells : Nat → Int32} {marsh_landings_count : Int32} {marsh_fogSide : Int32} {snapshot_reeds_states : Nat → Int32} {snapshot_reeds_count : Int32} {snapshot_reeds_broken : Int32} {snapshot_fleet_numbers : Nat → Int32} {snapshot_fleet_cells : Nat → Int32} {snapshot_fleet_fares : Nat → Int32} {snapshot_fleet_count : Int32} {snapshot_fleet_nextNumber : Int32} {snapshot_fleet_total : Int32} {snapshot_fleet_removedFares : Int32} {snapshot_fleet_meetings : Int32} {snapshot_plans_moves : Nat → Int32} {snapshot_plans_lengths : Nat → Int32} {snapshot_landings_cells : Nat → Int32} {snapshot_landings_count : Int32} {snapshot_fogSide : Int32} {history_slots : Nat → mm_MV} {history_free : Int32} {history_count : Int32} {ways_tolls : Nat → Int32} {ways_queue : Nat → Int32} {ways_heap : Nat → Int32} {ways_heapSize : Int32} {ways_found : Nat → Int32} {ways_improved : Nat → Int32} {pairing_costs : Nat → Int32} {pairing_best : Nat → Int32} {reader_kinds : Nat → Int32} {reader_starts : Nat → Int32} {reader_count : Int32} {commandText_signs : Nat → Int32} {commandText_length : Int32} {line_signs : Nat → Int32} {line_length : Int32} {spareMoves : Nat → Int32} {snapshotTaken : Int32} {lastErrorPosition : Int32} {lastFailedCommand : Int32} {X : UInt32} (hf : f_X12_passableShare K marsh_reeds_states = some X) (hp_this : At12 G w b marsh_reeds_states marsh_reeds_count marsh_reeds_broken marsh_fleet_numbers marsh_fleet_cells marsh_fleet_fares marsh_fleet_count marsh_fleet_nextNumber marsh_fleet_total marsh_fleet_removedFares marsh_fleet_meetings marsh_plans_moves marsh_plans_lengths marsh_landings_cells marsh_landings_count marsh_fogSide snapshot_reeds_states snapshot_reeds_count snapshot_reeds_broken snapshot_fleet_numbers snapshot_fleet_cells snapshot_fleet_fares snapshot_fleet_count snapshot_fleet_nextNumber snapshot_fleet_total snapshot_fleet_removedFares snapshot_fleet_meetings snapshot_plans_moves snapshot_plans_lengths snapshot_landings_cells snapshot_landings_count snapshot_fogSide history_slots history_free history_count ways_tolls ways_queue ways_heap ways_heapSize ways_found ways_improved pairing_costs pairing_best reader_kinds reader_starts reader_count commandText_signs commandText_length line_signs line_length spareMoves snapshotTaken lastErrorPosition lastFailedCommand) : Met l yX12_passableShare (Cond.code yX12_passableShare cX12_passableShare 1 (some .float) :: gAll) ({ frames := 3, cells := 0, slots := 0, locals := 63 }) (va_Pc [.ref b] (mm_Pre G w sz)) (mm_Qf G w sz (fun r w' => r = X ∧ w' = w)) 0 0 (va_A w sz) := by
  refine mm_headF [.ref b] (by decide +kernel) rfl (Nat.le_of_ble_eq_true rfl) ?_
  intro p e s m args below meth c A Q hsz hC hM hret ls hl
  have hx := hC.1.1
  have hb := hC.1.2.1
  have hl : lv_has ls 1 [(0, .ref b)] := hl
  rw [f_X12_passableShare] at hf
  refine lv_aload_n hx hb dX12_passableShare_0 rfl (lv_at hl 0 rfl) ?_
  refine mm_get hC hM (k := 0) hp_this.1 rfl inAX12 (by decide) q2_16 rfl dX12_passableShare_1 ?_
  refine mm_get hC hM (k := 0) (hp_this.2.1).1 rfl inAX6 (by decide) q1_140 rfl dX12_passableShare_4 ?_
  obtain ⟨q7, hq7, hf⟩ := mm_bd hf
  refine mm_Vi (rest := []) hC hM (c_X9_openCells l hq7 ((hp_this.2.1).2.1)) q2_125 q1_3 ykX9_openCells q2_122 q2_123 q2_124 ((hp_this.2.1).2.1).1 rfl ⟨rfl, rfl⟩ ⟨Nat.le_of_ble_eq_true rfl, Nat.le_of_ble_eq_true rfl⟩ rfl hl.1 rfl (Nat.le_of_ble_eq_true rfl) dX12_passableShare_7 ⟨Nat.le_of_ble_eq_true rfl, Nat.le_of_ble_eq_true rfl⟩ (fun r w7 H locs hM hw => ?_)
  obtain ⟨hr, hw⟩ := hw
  rw [hr]
  rw [hw] at hM
  refine lv_i2f hx hb dX12_passableShare_10 ?_
  refine lv_ldcwf hx hb hC.1.2.2.2.1 (hC.1.2.2.2.2 _ q2_130) dX12_passableShare_11 ?_
  obtain ⟨hg14, hf⟩ := mm_gb hf
  refine lv_fdiv hx hb dX12_passableShare_14 (mm_n32 hg14) ?_
  cases hf
  exact hret hM dX12_passableShare_15 ⟨rfl, rfl⟩
def f_X12_waysAgree_L2 (K : Nat) (marsh_reeds_states : Nat → Int32) (marsh_fleet_cells : Nat → Int32) (marsh_fleet_count : Int32) (marsh_fogSide : Int32) : Nat → (Int32) → (Nat → Int32) → (Nat → Int32) → (Nat → Int32) → (Int32) → (Nat → Int32) → (Nat → Int32) → Option (Int32 × (Nat → Int32) × (Nat → Int32) × (Nat → Int32) × Int32 × (Nat → Int32) × (Nat → Int32))
  | 0, _, _, _, _, _, _, _ => none
  | n + 1, x1, ways_tolls, ways_queue, ways_heap, ways_heapSize, ways_found, ways_improved => if marsh_fleet_count ≤ x1 then some (1, ways_tolls, ways_queue, ways_heap, ways_heapSize, ways_found, ways_improved) else mm_g (mm_ck x1 4) ((f_X11_setPlainTolls K ways_tolls marsh_reeds_states).bind fun q37 => (f_X11_searchByBreadth K q37 ways_queue ways_found (marsh_fleet_cells x1.toNatClampNeg)).bind fun q45 => (f_X11_searchByRounds K q37 ways_improved (marsh_fleet_cells x1.toNatClampNeg)).bind fun q53 => (f_X11_resultsAgree K q45.2 q53).bind fun q60 => if q60 = 0 then some (0, q37, q45.1, ways_heap, ways_heapSize, q45.2, q53) else (f_X11_setFogTolls K q37 marsh_reeds_states marsh_fogSide).bind fun q76 => (f_X11_searchByHeap K q76 ways_heap q45.2 (marsh_fleet_cells x1.toNatClampNeg)).bind fun q84 => (f_X11_searchByRounds K q76 q53 (marsh_fleet_cells x1.toNatClampNeg)).bind fun q92 => (f_X11_resultsAgree K q84.2.2 q92).bind fun q99 => if q99 = 0 then some (0, q76, q45.1, q84.1, q84.2.1, q84.2.2, q92) else f_X12_waysAgree_L2 K marsh_reeds_states marsh_fleet_cells marsh_fleet_count marsh_fogSide n (x1 + 1) q76 q45.1 q84.1 q84.2.1 q84.2.2 q92)
def f_X12_waysAgree (K : Nat) (marsh_reeds_states : Nat → Int32) (marsh_fleet_cells : Nat → Int32) (marsh_fleet_count : Int32) (marsh_fogSide : Int32) (ways_tolls : Nat → Int32) (ways_queue : Nat → Int32) (ways_heap : Nat → Int32) (ways_heapSize : Int32) (ways_found : Nat → Int32) (ways_improved : Nat → Int32) : Option (Int32 × (Nat → Int32) × (Nat → Int32) × (Nat → Int32) × Int32 × (Nat → Int32) × (Nat → Int32)) := f_X12_waysAgree_L2 K marsh_reeds_states marsh_fleet_cells marsh_fleet_count marsh_fogSide K 0 ways_tolls ways_queue ways_heap ways_heapSize ways_found ways_improved
set_option maxHeartbeats 4000000 in
set_option maxRecDepth 100000 in
theorem c_X12_waysAgree (l : Launch) {G : mm_G} {K : Nat} {w : va_W} {sz : Nat} {b : Nat} {marsh_reeds_states : Nat → Int32} {marsh_reeds_count : Int32} {marsh_reeds_broken : Int32} {marsh_fleet_numbers : Nat → Int32} {marsh_fleet_cells : Nat → Int32} {marsh_fleet_fares : Nat → Int32} {marsh_fleet_count : Int32} {marsh_fleet_nextNumber : Int32} {marsh_fleet_total : Int32} {marsh_fleet_removedFares : Int32} {marsh_fleet_meetings : Int32} {marsh_plans_moves : Nat → Int32} {marsh_plans_lengths : Nat → Int32} {marsh_landings_cells : Nat → Int32} {marsh_landings_count : Int32} {marsh_fogSide : Int32} {snapshot_reeds_states : Nat → Int32} {snapshot_reeds_count : Int32} {snapshot_reeds_broken : Int32} {snapshot_fleet_numbers : Nat → Int32} {snapshot_fleet_cells : Nat → Int32} {snapshot_fleet_fares : Nat → Int32} {snapshot_fleet_count : Int32} {snapshot_fleet_nextNumber : Int32} {snapshot_fleet_total : Int32} {snapshot_fleet_removedFares : Int32} {snapshot_fleet_meetings : Int32} {snapshot_plans_moves : Nat → Int32} {snapshot_plans_lengths : Nat → Int32} {snapshot_landings_cells : Nat → Int32} {snapshot_landings_count : Int32} {snapshot_fogSide : Int32} {history_slots : Nat → mm_MV} {history_free : Int32} {history_count : Int32} {ways_tolls : Nat → Int32} {ways_queue : Nat → Int32} {ways_heap : Nat → Int32} {ways_heapSize : Int32} {ways_found : Nat → Int32} {ways_improved : Nat → Int32} {pairing_costs : Nat → Int32} {pairing_best : Nat → Int32} {reader_kinds : Nat → Int32} {reader_starts : Nat → Int32} {reader_count : Int32} {commandText_signs : Nat → Int32} {commandText_length : Int32} {line_signs : Nat → Int32} {line_length : Int32} {spareMoves : Nat → Int32} {snapshotTaken : Int32} {lastErrorPosition : Int32} {lastFailedCommand : Int32} {X : Int32 × (Nat → Int32) × (Nat → Int32) × (Nat → Int32) × Int32 × (Nat → Int32) × (Nat → Int32)} (hf : f_X12_waysAgree K marsh_reeds_states marsh_fleet_cells marsh_fleet_count marsh_fogSide ways_tolls ways_queue ways_heap ways_heapSize ways_found ways_improved = some X) (hp_this : At12 G w b marsh_reeds_states marsh_reeds_count marsh_reeds_broken marsh_fleet_numbers marsh_fleet_cells marsh_fleet_fares marsh_fleet_count marsh_fleet_nextNumber marsh_fleet_total marsh_fleet_removedFares marsh_fleet_meetings marsh_plans_moves marsh_plans_lengths marsh_landings_cells marsh_landings_count marsh_fogSide snapshot_reeds_states snapshot_reeds_count snapshot_reeds_broken snapshot_fleet_numbers snapshot_fleet_cells snapshot_fleet_fares snapshot_fleet_count snapshot_fleet_nextNumber snapshot_fleet_total snapshot_fleet_removedFares snapshot_fleet_meetings snapshot_plans_moves snapshot_plans_lengths snapshot_landings_cells snapshot_landings_count snapshot_fogSide history_slots history_free history_count ways_tolls ways_queue ways_heap ways_heapSize ways_found ways_improved pairing_costs pairing_best reader_kinds reader_starts reader_count commandText_signs commandText_length line_signs line_length spareMoves snapshotTaken lastErrorPosition lastFailedCommand) : Met l yX12_waysAgree (Cond.code yX12_waysAgree cX12_waysAgree 3 (some .boolean) :: gAll) ({ frames := 4, cells := 0, slots := 0, locals := 93 }) (va_Pc [.ref b] (mm_Pre G w sz)) (mm_Qi G w sz (fun r w' => r = X.1 ∧ At12 G w' b marsh_reeds_states marsh_reeds_count marsh_reeds_broken marsh_fleet_numbers marsh_fleet_cells marsh_fleet_fares marsh_fleet_count marsh_fleet_nextNumber marsh_fleet_total marsh_fleet_removedFares marsh_fleet_meetings marsh_plans_moves marsh_plans_lengths marsh_landings_cells marsh_landings_count marsh_fogSide snapshot_reeds_states snapshot_reeds_count snapshot_reeds_broken snapshot_fleet_numbers snapshot_fleet_cells snapshot_fleet_fares snapshot_fleet_count snapshot_fleet_nextNumber snapshot_fleet_total snapshot_fleet_removedFares snapshot_fleet_meetings snapshot_plans_moves snapshot_plans_lengths snapshot_landings_cells snapshot_landings_count snapshot_fogSide history_slots history_free history_count X.2.1 X.2.2.1 X.2.2.2.1 X.2.2.2.2.1 X.2.2.2.2.2.1 X.2.2.2.2.2.2 pairing_costs pairing_best reader_kinds reader_starts reader_count commandText_signs commandText_length line_signs line_length spareMoves snapshotTaken lastErrorPosition lastFailedCommand ∧ mm_fr w w' b (b + 152))) 0 0 (va_A w sz) := by
  refine mm_headI [.ref b] (by decide +kernel) rfl (Nat.le_of_ble_eq_true rfl) ?_
  intro p e s m args below meth c A Q hsz hC hM hret ls hl
  have hx := hC.1.1
  have hb := hC.1.2.1
  have hl : lv_has ls 3 [(0, .ref b)] := hl
  have hF : mm_fr w w b (b + 152) := mm_fr.rf
  rw [f_X12_waysAgree] at hf
  obtain ⟨hc_this, hp_this_marsh, hp_this_snapshot, hp_this_history, hp_this_ways, hp_this_pairing, hp_this_reader, hp_this_commandText, hp_this_line, hp_this_spareMoves⟩ := hp_this
  refine lv_iconst (v := 0) hx hb dX12_waysAgree_0 (by decide) ?_
  refine lv_istore_n (lv' := [(1, .int 0), (0, .ref b)]) hx hb dX12_waysAgree_1 rfl hl (by decide) rfl (fun ls hl => ?_)
  have L2 : ∀ (n : Nat) (L2_x1 : Int32) (L2_ways_tolls : Nat → Int32) (L2_ways_queue : Nat → Int32) (L2_ways_heap : Nat → Int32) (L2_ways_heapSize : Int32) (L2_ways_found : Nat → Int32) (L2_ways_improved : Nat → Int32), f_X12_waysAgree_L2 K marsh_reeds_states marsh_fleet_cells marsh_fleet_count marsh_fogSide n L2_x1 L2_ways_tolls L2_ways_queue L2_ways_heap L2_ways_heapSize L2_ways_found L2_ways_improved = some X → ∀ (L2_w : va_W) (H : Heap) (locs : List Loc), mm_S G A s.heap L2_w H locs → (b, (.inr (12, [.ref (b + 1), .ref (b + 13), .ref (b + 25), .ref (b + 135), .ref (b + 141), .ref (b + 144), .ref (b + 147), .ref (b + 149), .ref (b + 151), .int snapshotTaken, .int lastErrorPosition, .int lastFailedCommand]) : va_E)) ∈ L2_w → (b + 151, (.inl (G.2 0, 20, .inl spareMoves) : va_E)) ∈ L2_w → At6 G L2_w (b + 1) marsh_reeds_states marsh_reeds_count marsh_reeds_broken marsh_fleet_numbers marsh_fleet_cells marsh_fleet_fares marsh_fleet_count marsh_fleet_nextNumber marsh_fleet_total marsh_fleet_removedFares marsh_fleet_meetings marsh_plans_moves marsh_plans_lengths marsh_landings_cells marsh_landings_count marsh_fogSide → At6 G L2_w (b + 13) snapshot_reeds_states snapshot_reeds_count snapshot_reeds_broken snapshot_fleet_numbers snapshot_fleet_cells snapshot_fleet_fares snapshot_fleet_count snapshot_fleet_nextNumber snapshot_fleet_total snapshot_fleet_removedFares snapshot_fleet_meetings snapshot_plans_moves snapshot_plans_lengths snapshot_landings_cells snapshot_landings_count snapshot_fogSide → At4 G L2_w (b + 25) history_slots history_free history_count → At11 G L2_w (b + 135) L2_ways_tolls L2_ways_queue L2_ways_heap L2_ways_heapSize L2_ways_found L2_ways_improved → At7 G L2_w (b + 141) pairing_costs pairing_best → At2 G L2_w (b + 144) reader_kinds reader_starts reader_count → At10 G L2_w (b + 147) commandText_signs commandText_length → At10 G L2_w (b + 149) line_signs line_length → mm_fr w L2_w b (b + 152) → ∀ (ls : Array Slot), lv_has ls 3 [(0, .ref b), (1, .int L2_x1)] → W p l e ({ frames := 4, cells := 0, slots := 0, locals := 93 } : Room) s m args below meth c H locs 0 0 Q (F0 m 2 ls []) := by
    intro n
    induction n with
    | zero => intro L2_x1 L2_ways_tolls L2_ways_queue L2_ways_heap L2_ways_heapSize L2_ways_found L2_ways_improved hf; cases hf
    | succ n ih =>
      intro L2_x1 L2_ways_tolls L2_ways_queue L2_ways_heap L2_ways_heapSize L2_ways_found L2_ways_improved hf L2_w H locs hM hc_this hp_this_spareMoves hp_this_marsh hp_this_snapshot hp_this_history hp_this_ways hp_this_pairing hp_this_reader hp_this_commandText hp_this_line hF ls hl
      rw [f_X12_waysAgree_L2] at hf
      refine lv_iload_n hx hb dX12_waysAgree_2 rfl (lv_at hl 1 rfl) ?_
      refine lv_aload_n hx hb dX12_waysAgree_3 rfl (lv_at hl 0 rfl) ?_
      refine mm_get hC hM (k := 0) hc_this rfl inAX12 (by decide) q2_16 rfl dX12_waysAgree_4 ?_
      refine mm_get hC hM (k := 1) hp_this_marsh.1 rfl inAX6 (by decide) q1_142 rfl dX12_waysAgree_7 ?_
      refine mm_get hC hM (k := 3) (hp_this_marsh.2.2.1).1 rfl inAX3 (by decide) q1_83 rfl dX12_waysAgree_10 ?_
      refine lv_icmp_ge (tgt := 113) hx hb dX12_waysAgree_13 (by decide) (fun hcd => ?_) (fun hcd => ?_)
      · rw [if_pos hcd] at hf
        refine lv_iconst (v := 1) hx hb dX12_waysAgree_113 (by decide) ?_
        cases hf
        exact hret hM dX12_waysAgree_114 rfl ⟨rfl, ⟨hc_this, hp_this_marsh, hp_this_snapshot, hp_this_history, hp_this_ways, hp_this_pairing, hp_this_reader, hp_this_commandText, hp_this_line, hp_this_spareMoves⟩, hF⟩
      · rw [if_neg hcd] at hf
        refine lv_aload_n hx hb dX12_waysAgree_16 rfl (lv_at hl 0 rfl) ?_
        refine mm_get hC hM (k := 0) hc_this rfl inAX12 (by decide) q2_16 rfl dX12_waysAgree_17 ?_
        refine mm_get hC hM (k := 1) hp_this_marsh.1 rfl inAX6 (by decide) q1_142 rfl dX12_waysAgree_20 ?_
        refine mm_get hC hM (k := 1) (hp_this_marsh.2.2.1).1 rfl inAX3 (by decide) q1_78 rfl dX12_waysAgree_23 ?_
        refine lv_iload_n hx hb dX12_waysAgree_26 rfl (lv_at hl 1 rfl) ?_
        obtain ⟨hg27, hf⟩ := mm_gd hf
        refine mm_iald hC hM ((hp_this_marsh.2.2.1).2.2.1) hg27 dX12_waysAgree_27 ?_
        refine lv_istore_n (lv' := [(2, .int (marsh_fleet_cells L2_x1.toNatClampNeg)), (0, .ref b), (1, .int L2_x1)]) hx hb dX12_waysAgree_28 rfl hl (by decide) rfl (fun ls hl => ?_)
        refine lv_aload_n hx hb dX12_waysAgree_29 rfl (lv_at hl 1 rfl) ?_
        refine mm_get hC hM (k := 3) hc_this rfl inAX12 (by decide) q2_19 rfl dX12_waysAgree_30 ?_
        refine lv_aload_n hx hb dX12_waysAgree_33 rfl (lv_at hl 1 rfl) ?_
        refine mm_get hC hM (k := 0) hc_this rfl inAX12 (by decide) q2_16 rfl dX12_waysAgree_34 ?_
        obtain ⟨q37, hq37, hf⟩ := mm_bd hf
        refine mm_Vv (rest := []) hC hM (c_X11_setPlainTolls l hq37 hp_this_ways hp_this_marsh (by omega)) q2_142 q1_8 ykX11_setPlainTolls q2_139 q2_140 q2_141 hp_this_ways.1 rfl ⟨rfl, rfl⟩ ⟨Nat.le_of_ble_eq_true rfl, Nat.le_of_ble_eq_true rfl⟩ rfl hl.1 rfl (Nat.le_of_ble_eq_true rfl) dX12_waysAgree_37 ⟨Nat.le_of_ble_eq_true rfl, Nat.le_of_ble_eq_true rfl⟩ (fun w37 H locs hM hw => ?_)
        obtain ⟨hn_this, hfr⟩ := hw
        have hc_this := hfr.keep hc_this (by omega)
        have hp_this_spareMoves := hfr.keep hp_this_spareMoves (by omega)
        have hp_this_marsh := hp_this_marsh.keep hfr (by omega)
        have hp_this_snapshot := hp_this_snapshot.keep hfr (by omega)
        have hp_this_history := hp_this_history.keep hfr (by omega)
        have hp_this_pairing := hp_this_pairing.keep hfr (by omega)
        have hp_this_reader := hp_this_reader.keep hfr (by omega)
        have hp_this_commandText := hp_this_commandText.keep hfr (by omega)
        have hp_this_line := hp_this_line.keep hfr (by omega)
        have hp_this_ways := hn_this
        have hF := hF.tr (hfr.wide (by omega) (by omega))
        refine lv_aload_n hx hb dX12_waysAgree_40 rfl (lv_at hl 1 rfl) ?_
        refine mm_get hC hM (k := 3) hc_this rfl inAX12 (by decide) q2_19 rfl dX12_waysAgree_41 ?_
        refine lv_iload_n hx hb dX12_waysAgree_44 rfl (lv_at hl 0 rfl) ?_
        obtain ⟨q45, hq45, hf⟩ := mm_bd hf
        refine mm_Vv (rest := []) hC hM (c_X11_searchByBreadth l hq45 hp_this_ways) q2_147 q1_8 ykX11_searchByBreadth q2_144 q2_145 q2_146 hp_this_ways.1 rfl ⟨rfl, rfl⟩ ⟨Nat.le_of_ble_eq_true rfl, Nat.le_of_ble_eq_true rfl⟩ rfl hl.1 rfl (Nat.le_of_ble_eq_true rfl) dX12_waysAgree_45 ⟨Nat.le_of_ble_eq_true rfl, Nat.le_of_ble_eq_true rfl⟩ (fun w45 H locs hM hw => ?_)
        obtain ⟨hn_this, hfr⟩ := hw
        have hc_this := hfr.keep hc_this (by omega)
        have hp_this_spareMoves := hfr.keep hp_this_spareMoves (by omega)
        have hp_this_marsh := hp_this_marsh.keep hfr (by omega)
        have hp_this_snapshot := hp_this_snapshot.keep hfr (by omega)
        have hp_this_history := hp_this_history.keep hfr (by omega)
        have hp_this_pairing := hp_this_pairing.keep hfr (by omega)
        have hp_this_reader := hp_this_reader.keep hfr (by omega)
        have hp_this_commandText := hp_this_commandText.keep hfr (by omega)
        have hp_this_line := hp_this_line.keep hfr (by omega)
        have hp_this_ways := hn_this
        have hF := hF.tr (hfr.wide (by omega) (by omega))
        refine lv_aload_n hx hb dX12_waysAgree_48 rfl (lv_at hl 1 rfl) ?_
        refine mm_get hC hM (k := 3) hc_this rfl inAX12 (by decide) q2_19 rfl dX12_waysAgree_49 ?_
        refine lv_iload_n hx hb dX12_waysAgree_52 rfl (lv_at hl 0 rfl) ?_
        obtain ⟨q53, hq53, hf⟩ := mm_bd hf
        refine mm_Vv (rest := []) hC hM (c_X11_searchByRounds l hq53 hp_this_ways) q2_170 q1_8 ykX11_searchByRounds q2_167 q2_168 q2_169 hp_this_ways.1 rfl ⟨rfl, rfl⟩ ⟨Nat.le_of_ble_eq_true rfl, Nat.le_of_ble_eq_true rfl⟩ rfl hl.1 rfl (Nat.le_of_ble_eq_true rfl) dX12_waysAgree_53 ⟨Nat.le_of_ble_eq_true rfl, Nat.le_of_ble_eq_true rfl⟩ (fun w53 H locs hM hw => ?_)
        obtain ⟨hn_this, hfr⟩ := hw
        have hc_this := hfr.keep hc_this (by omega)
        have hp_this_spareMoves := hfr.keep hp_this_spareMoves (by omega)
        have hp_this_marsh := hp_this_marsh.keep hfr (by omega)
        have hp_this_snapshot := hp_this_snapshot.keep hfr (by omega)
        have hp_this_history := hp_this_history.keep hfr (by omega)
        have hp_this_pairing := hp_this_pairing.keep hfr (by omega)
        have hp_this_reader := hp_this_reader.keep hfr (by omega)
        have hp_this_commandText := hp_this_commandText.keep hfr (by omega)
        have hp_this_line := hp_this_line.keep hfr (by omega)
        have hp_this_ways := hn_this
        have hF := hF.tr (hfr.wide (by omega) (by omega))
        refine lv_aload_n hx hb dX12_waysAgree_56 rfl (lv_at hl 1 rfl) ?_
        refine mm_get hC hM (k := 3) hc_this rfl inAX12 (by decide) q2_19 rfl dX12_waysAgree_57 ?_
        obtain ⟨q60, hq60, hf⟩ := mm_bd hf
        refine mm_Vi (rest := []) hC hM (c_X11_resultsAgree l hq60 hp_this_ways) q2_178 q1_8 ykX11_resultsAgree q2_175 q2_176 q2_177 hp_this_ways.1 rfl ⟨rfl, rfl⟩ ⟨Nat.le_of_ble_eq_true rfl, Nat.le_of_ble_eq_true rfl⟩ rfl hl.1 rfl (Nat.le_of_ble_eq_true rfl) dX12_waysAgree_60 ⟨Nat.le_of_ble_eq_true rfl, Nat.le_of_ble_eq_true rfl⟩ (fun r w60 H locs hM hw => ?_)
        obtain ⟨hr, hw⟩ := hw
        rw [hr]
        rw [hw] at hM
        refine lv_if_ne (tgt := 68) hx hb dX12_waysAgree_63 (by decide) (fun hcd => ?_) (fun hcd => ?_)
        · rw [if_neg hcd] at hf
          refine lv_aload_n hx hb dX12_waysAgree_68 rfl (lv_at hl 1 rfl) ?_
          refine mm_get hC hM (k := 3) hc_this rfl inAX12 (by decide) q2_19 rfl dX12_waysAgree_69 ?_
          refine lv_aload_n hx hb dX12_waysAgree_72 rfl (lv_at hl 1 rfl) ?_
          refine mm_get hC hM (k := 0) hc_this rfl inAX12 (by decide) q2_16 rfl dX12_waysAgree_73 ?_
          obtain ⟨q76, hq76, hf⟩ := mm_bd hf
          refine mm_Vv (rest := []) hC hM (c_X11_setFogTolls l hq76 hp_this_ways hp_this_marsh (by omega)) q2_182 q1_8 ykX11_setFogTolls q2_179 q2_180 q2_181 hp_this_ways.1 rfl ⟨rfl, rfl⟩ ⟨Nat.le_of_ble_eq_true rfl, Nat.le_of_ble_eq_true rfl⟩ rfl hl.1 rfl (Nat.le_of_ble_eq_true rfl) dX12_waysAgree_76 ⟨Nat.le_of_ble_eq_true rfl, Nat.le_of_ble_eq_true rfl⟩ (fun w76 H locs hM hw => ?_)
          obtain ⟨hn_this, hfr⟩ := hw
          have hc_this := hfr.keep hc_this (by omega)
          have hp_this_spareMoves := hfr.keep hp_this_spareMoves (by omega)
          have hp_this_marsh := hp_this_marsh.keep hfr (by omega)
          have hp_this_snapshot := hp_this_snapshot.keep hfr (by omega)
          have hp_this_history := hp_this_history.keep hfr (by omega)
          have hp_this_pairing := hp_this_pairing.keep hfr (by omega)
          have hp_this_reader := hp_this_reader.keep hfr (by omega)
          have hp_this_commandText := hp_this_commandText.keep hfr (by omega)
          have hp_this_line := hp_this_line.keep hfr (by omega)
          have hp_this_ways := hn_this
          have hF := hF.tr (hfr.wide (by omega) (by omega))
          refine lv_aload_n hx hb dX12_waysAgree_79 rfl (lv_at hl 1 rfl) ?_
          refine mm_get hC hM (k := 3) hc_this rfl inAX12 (by decide) q2_19 rfl dX12_waysAgree_80 ?_
          refine lv_iload_n hx hb dX12_waysAgree_83 rfl (lv_at hl 0 rfl) ?_
          obtain ⟨q84, hq84, hf⟩ := mm_bd hf
          refine mm_Vv (rest := []) hC hM (c_X11_searchByHeap l hq84 hp_this_ways) q2_193 q1_8 ykX11_searchByHeap q2_190 q2_191 q2_192 hp_this_ways.1 rfl ⟨rfl, rfl⟩ ⟨Nat.le_of_ble_eq_true rfl, Nat.le_of_ble_eq_true rfl⟩ rfl hl.1 rfl (Nat.le_of_ble_eq_true rfl) dX12_waysAgree_84 ⟨Nat.le_of_ble_eq_true rfl, Nat.le_of_ble_eq_true rfl⟩ (fun w84 H locs hM hw => ?_)
          obtain ⟨hn_this, hfr⟩ := hw
          have hc_this := hfr.keep hc_this (by omega)
          have hp_this_spareMoves := hfr.keep hp_this_spareMoves (by omega)
          have hp_this_marsh := hp_this_marsh.keep hfr (by omega)
          have hp_this_snapshot := hp_this_snapshot.keep hfr (by omega)
          have hp_this_history := hp_this_history.keep hfr (by omega)
          have hp_this_pairing := hp_this_pairing.keep hfr (by omega)
          have hp_this_reader := hp_this_reader.keep hfr (by omega)
          have hp_this_commandText := hp_this_commandText.keep hfr (by omega)
          have hp_this_line := hp_this_line.keep hfr (by omega)
          have hp_this_ways := hn_this
          have hF := hF.tr (hfr.wide (by omega) (by omega))
          refine lv_aload_n hx hb dX12_waysAgree_87 rfl (lv_at hl 1 rfl) ?_
          refine mm_get hC hM (k := 3) hc_this rfl inAX12 (by decide) q2_19 rfl dX12_waysAgree_88 ?_
          refine lv_iload_n hx hb dX12_waysAgree_91 rfl (lv_at hl 0 rfl) ?_
          obtain ⟨q92, hq92, hf⟩ := mm_bd hf
          refine mm_Vv (rest := []) hC hM (c_X11_searchByRounds l hq92 hp_this_ways) q2_170 q1_8 ykX11_searchByRounds q2_167 q2_168 q2_169 hp_this_ways.1 rfl ⟨rfl, rfl⟩ ⟨Nat.le_of_ble_eq_true rfl, Nat.le_of_ble_eq_true rfl⟩ rfl hl.1 rfl (Nat.le_of_ble_eq_true rfl) dX12_waysAgree_92 ⟨Nat.le_of_ble_eq_true rfl, Nat.le_of_ble_eq_true rfl⟩ (fun w92 H locs hM hw => ?_)
          obtain ⟨hn_this, hfr⟩ := hw
          have hc_this := hfr.keep hc_this (by omega)
          have hp_this_spareMoves := hfr.keep hp_this_spareMoves (by omega)
          have hp_this_marsh := hp_this_marsh.keep hfr (by omega)
          have hp_this_snapshot := hp_this_snapshot.keep hfr (by omega)
          have hp_this_history := hp_this_history.keep hfr (by omega)
          have hp_this_pairing := hp_this_pairing.keep hfr (by omega)
          have hp_this_reader := hp_this_reader.keep hfr (by omega)
          have hp_this_commandText := hp_this_commandText.keep hfr (by omega)
          have hp_this_line := hp_this_line.keep hfr (by omega)
          have hp_this_ways := hn_this
          have hF := hF.tr (hfr.wide (by omega) (by omega))
          refine lv_aload_n hx hb dX12_waysAgree_95 rfl (lv_at hl 1 rfl) ?_
          refine mm_get hC hM (k := 3) hc_this rfl inAX12 (by decide) q2_19 rfl dX12_waysAgree_96 ?_
          obtain ⟨q99, hq99, hf⟩ := mm_bd hf
          refine mm_Vi (rest := []) hC hM (c_X11_resultsAgree l hq99 hp_this_ways) q2_178 q1_8 ykX11_resultsAgree q2_175 q2_176 q2_177 hp_this_ways.1 rfl ⟨rfl, rfl⟩ ⟨Nat.le_of_ble_eq_true rfl, Nat.le_of_ble_eq_true rfl⟩ rfl hl.1 rfl (Nat.le_of_ble_eq_true rfl) dX12_waysAgree_99 ⟨Nat.le_of_ble_eq_true rfl, Nat.le_of_ble_eq_true rfl⟩ (fun r w99 H locs hM hw => ?_)
          obtain ⟨hr, hw⟩ := hw
          rw [hr]
          rw [hw] at hM
          refine lv_if_ne (tgt := 107) hx hb dX12_waysAgree_102 (by decide) (fun hcd => ?_) (fun hcd => ?_)
          · rw [if_neg hcd] at hf
            refine lv_iinc (v := (L2_x1 + 1)) (lv' := [(1, .int (L2_x1 + 1)), (2, .int (marsh_fleet_cells L2_x1.toNatClampNeg)), (0, .ref b)]) hx hb dX12_waysAgree_107 hl (k := 2) rfl rfl (by decide) rfl (fun ls hl => ?_)
            refine lv_goto (tgt := 2) hx hb dX12_waysAgree_110 (by decide) ?_
            exact ih _ _ _ _ _ _ _ hf _ _ _ hM hc_this hp_this_spareMoves hp_this_marsh hp_this_snapshot hp_this_history hp_this_ways hp_this_pairing hp_this_reader hp_this_commandText hp_this_line hF _ (lv_sub hl [2, 0] rfl)
          · rw [if_pos hcd] at hf
            refine lv_iconst (v := 0) hx hb dX12_waysAgree_105 (by decide) ?_
            cases hf
            exact hret hM dX12_waysAgree_106 rfl ⟨rfl, ⟨hc_this, hp_this_marsh, hp_this_snapshot, hp_this_history, hp_this_ways, hp_this_pairing, hp_this_reader, hp_this_commandText, hp_this_line, hp_this_spareMoves⟩, hF⟩
        · rw [if_pos hcd] at hf
          refine lv_iconst (v := 0) hx hb dX12_waysAgree_66 (by decide) ?_
          cases hf
          exact hret hM dX12_waysAgree_67 rfl ⟨rfl, ⟨hc_this, hp_this_marsh, hp_this_snapshot, hp_this_history, hp_this_ways, hp_this_pairing, hp_this_reader, hp_this_commandText, hp_this_line, hp_this_spareMoves⟩, hF⟩
  exact L2 K _ _ _ _ _ _ _ hf _ _ _ hM hc_this hp_this_spareMoves hp_this_marsh hp_this_snapshot hp_this_history hp_this_ways hp_this_pairing hp_this_reader hp_this_commandText hp_this_line hF _ (lv_sub hl [1, 0] rfl)
def f_X12_reductionsAgree_L2 (K : Nat) (marsh_plans_moves : Nat → Int32) (marsh_plans_lengths : Nat → Int32) : Nat → (Int32) → (Nat → Int32) → Option (Int32 × (Nat → Int32))
  | 0, _, _ => none
  | n + 1, x1, spareMoves => if 6 ≤ x1 then some (1, spareMoves) else (f_X8_lengthByStack K marsh_plans_moves marsh_plans_lengths spareMoves x1).bind fun q20 => (f_X8_lengthByPairs K marsh_plans_moves marsh_plans_lengths q20.2 x1).bind fun q35 => if q20.1 = q35.1 then f_X12_reductionsAgree_L2 K marsh_plans_moves marsh_plans_lengths n (x1 + 1) q35.2 else some (0, q35.2)
def f_X12_reductionsAgree (K : Nat) (marsh_plans_moves : Nat → Int32) (marsh_plans_lengths : Nat → Int32) (spareMoves : Nat → Int32) : Option (Int32 × (Nat → Int32)) := f_X12_reductionsAgree_L2 K marsh_plans_moves marsh_plans_lengths K 0 spareMoves
set_option maxHeartbeats 4000000 in
set_option maxRecDepth 100000 in
theorem c_X12_reductionsAgree (l : Launch) {G : mm_G} {K : Nat} {w : va_W} {sz : Nat} {b : Nat} {marsh_reeds_states : Nat → Int32} {marsh_reeds_count : Int32} {marsh_reeds_broken : Int32} {marsh_fleet_numbers : Nat → Int32} {marsh_fleet_cells : Nat → Int32} {marsh_fleet_fares : Nat → Int32} {marsh_fleet_count : Int32} {marsh_fleet_nextNumber : Int32} {marsh_fleet_total : Int32} {marsh_fleet_removedFares : Int32} {marsh_fleet_meetings : Int32} {marsh_plans_moves : Nat → Int32} {marsh_plans_lengths : Nat → Int32} {marsh_landings_cells : Nat → Int32} {marsh_landings_count : Int32} {marsh_fogSide : Int32} {snapshot_reeds_states : Nat → Int32} {snapshot_reeds_count : Int32} {snapshot_reeds_broken : Int32} {snapshot_fleet_numbers : Nat → Int32} {snapshot_fleet_cells : Nat → Int32} {snapshot_fleet_fares : Nat → Int32} {snapshot_fleet_count : Int32} {snapshot_fleet_nextNumber : Int32} {snapshot_fleet_total : Int32} {snapshot_fleet_removedFares : Int32} {snapshot_fleet_meetings : Int32} {snapshot_plans_moves : Nat → Int32} {snapshot_plans_lengths : Nat → Int32} {snapshot_landings_cells : Nat → Int32} {snapshot_landings_count : Int32} {snapshot_fogSide : Int32} {history_slots : Nat → mm_MV} {history_free : Int32} {history_count : Int32} {ways_tolls : Nat → Int32} {ways_queue : Nat → Int32} {ways_heap : Nat → Int32} {ways_heapSize : Int32} {ways_found : Nat → Int32} {ways_improved : Nat → Int32} {pairing_costs : Nat → Int32} {pairing_best : Nat → Int32} {reader_kinds : Nat → Int32} {reader_starts : Nat → Int32} {reader_count : Int32} {commandText_signs : Nat → Int32} {commandText_length : Int32} {line_signs : Nat → Int32} {line_length : Int32} {spareMoves : Nat → Int32} {snapshotTaken : Int32} {lastErrorPosition : Int32} {lastFailedCommand : Int32} {X : Int32 × (Nat → Int32)} (hf : f_X12_reductionsAgree K marsh_plans_moves marsh_plans_lengths spareMoves = some X) (hp_this : At12 G w b marsh_reeds_states marsh_reeds_count marsh_reeds_broken marsh_fleet_numbers marsh_fleet_cells marsh_fleet_fares marsh_fleet_count marsh_fleet_nextNumber marsh_fleet_total marsh_fleet_removedFares marsh_fleet_meetings marsh_plans_moves marsh_plans_lengths marsh_landings_cells marsh_landings_count marsh_fogSide snapshot_reeds_states snapshot_reeds_count snapshot_reeds_broken snapshot_fleet_numbers snapshot_fleet_cells snapshot_fleet_fares snapshot_fleet_count snapshot_fleet_nextNumber snapshot_fleet_total snapshot_fleet_removedFares snapshot_fleet_meetings snapshot_plans_moves snapshot_plans_lengths snapshot_landings_cells snapshot_landings_count snapshot_fogSide history_slots history_free history_count ways_tolls ways_queue ways_heap ways_heapSize ways_found ways_improved pairing_costs pairing_best reader_kinds reader_starts reader_count commandText_signs commandText_length line_signs line_length spareMoves snapshotTaken lastErrorPosition lastFailedCommand) : Met l yX12_reductionsAgree (Cond.code yX12_reductionsAgree cX12_reductionsAgree 2 (some .boolean) :: gAll) ({ frames := 3, cells := 0, slots := 0, locals := 86 }) (va_Pc [.ref b] (mm_Pre G w sz)) (mm_Qi G w sz (fun r w' => r = X.1 ∧ At12 G w' b marsh_reeds_states marsh_reeds_count marsh_reeds_broken marsh_fleet_numbers marsh_fleet_cells marsh_fleet_fares marsh_fleet_count marsh_fleet_nextNumber marsh_fleet_total marsh_fleet_removedFares marsh_fleet_meetings marsh_plans_moves marsh_plans_lengths marsh_landings_cells marsh_landings_count marsh_fogSide snapshot_reeds_states snapshot_reeds_count snapshot_reeds_broken snapshot_fleet_numbers snapshot_fleet_cells snapshot_fleet_fares snapshot_fleet_count snapshot_fleet_nextNumber snapshot_fleet_total snapshot_fleet_removedFares snapshot_fleet_meetings snapshot_plans_moves snapshot_plans_lengths snapshot_landings_cells snapshot_landings_count snapshot_fogSide history_slots history_free history_count ways_tolls ways_queue ways_heap ways_heapSize ways_found ways_improved pairing_costs pairing_best reader_kinds reader_starts reader_count commandText_signs commandText_length line_signs line_length X.2 snapshotTaken lastErrorPosition lastFailedCommand ∧ mm_fr w w' b (b + 152))) 0 0 (va_A w sz) := by
  refine mm_headI [.ref b] (by decide +kernel) rfl (Nat.le_of_ble_eq_true rfl) ?_
  intro p e s m args below meth c A Q hsz hC hM hret ls hl
  have hx := hC.1.1
  have hb := hC.1.2.1
  have hl : lv_has ls 2 [(0, .ref b)] := hl
  have hF : mm_fr w w b (b + 152) := mm_fr.rf
  rw [f_X12_reductionsAgree] at hf
  obtain ⟨hc_this, hp_this_marsh, hp_this_snapshot, hp_this_history, hp_this_ways, hp_this_pairing, hp_this_reader, hp_this_commandText, hp_this_line, hp_this_spareMoves⟩ := hp_this
  refine lv_iconst (v := 0) hx hb dX12_reductionsAgree_0 (by decide) ?_
  refine lv_istore_n (lv' := [(1, .int 0), (0, .ref b)]) hx hb dX12_reductionsAgree_1 rfl hl (by decide) rfl (fun ls hl => ?_)
  have L2 : ∀ (n : Nat) (L2_x1 : Int32) (L2_spareMoves : Nat → Int32), f_X12_reductionsAgree_L2 K marsh_plans_moves marsh_plans_lengths n L2_x1 L2_spareMoves = some X → ∀ (L2_w : va_W) (H : Heap) (locs : List Loc), mm_S G A s.heap L2_w H locs → (b, (.inr (12, [.ref (b + 1), .ref (b + 13), .ref (b + 25), .ref (b + 135), .ref (b + 141), .ref (b + 144), .ref (b + 147), .ref (b + 149), .ref (b + 151), .int snapshotTaken, .int lastErrorPosition, .int lastFailedCommand]) : va_E)) ∈ L2_w → (b + 151, (.inl (G.2 0, 20, .inl L2_spareMoves) : va_E)) ∈ L2_w → At6 G L2_w (b + 1) marsh_reeds_states marsh_reeds_count marsh_reeds_broken marsh_fleet_numbers marsh_fleet_cells marsh_fleet_fares marsh_fleet_count marsh_fleet_nextNumber marsh_fleet_total marsh_fleet_removedFares marsh_fleet_meetings marsh_plans_moves marsh_plans_lengths marsh_landings_cells marsh_landings_count marsh_fogSide → At6 G L2_w (b + 13) snapshot_reeds_states snapshot_reeds_count snapshot_reeds_broken snapshot_fleet_numbers snapshot_fleet_cells snapshot_fleet_fares snapshot_fleet_count snapshot_fleet_nextNumber snapshot_fleet_total snapshot_fleet_removedFares snapshot_fleet_meetings snapshot_plans_moves snapshot_plans_lengths snapshot_landings_cells snapshot_landings_count snapshot_fogSide → At4 G L2_w (b + 25) history_slots history_free history_count → At11 G L2_w (b + 135) ways_tolls ways_queue ways_heap ways_heapSize ways_found ways_improved → At7 G L2_w (b + 141) pairing_costs pairing_best → At2 G L2_w (b + 144) reader_kinds reader_starts reader_count → At10 G L2_w (b + 147) commandText_signs commandText_length → At10 G L2_w (b + 149) line_signs line_length → mm_fr w L2_w b (b + 152) → ∀ (ls : Array Slot), lv_has ls 2 [(0, .ref b), (1, .int L2_x1)] → W p l e ({ frames := 3, cells := 0, slots := 0, locals := 86 } : Room) s m args below meth c H locs 0 0 Q (F0 m 2 ls []) := by
    intro n
    induction n with
    | zero => intro L2_x1 L2_spareMoves hf; cases hf
    | succ n ih =>
      intro L2_x1 L2_spareMoves hf L2_w H locs hM hc_this hp_this_spareMoves hp_this_marsh hp_this_snapshot hp_this_history hp_this_ways hp_this_pairing hp_this_reader hp_this_commandText hp_this_line hF ls hl
      rw [f_X12_reductionsAgree_L2] at hf
      refine lv_iload_n hx hb dX12_reductionsAgree_2 rfl (lv_at hl 1 rfl) ?_
      refine lv_bipush (v := 6) hx hb dX12_reductionsAgree_3 (by decide) ?_
      refine lv_icmp_ge (tgt := 49) hx hb dX12_reductionsAgree_5 (by decide) (fun hcd => ?_) (fun hcd => ?_)
      · rw [if_pos hcd] at hf
        refine lv_iconst (v := 1) hx hb dX12_reductionsAgree_49 (by decide) ?_
        cases hf
        exact hret hM dX12_reductionsAgree_50 rfl ⟨rfl, ⟨hc_this, hp_this_marsh, hp_this_snapshot, hp_this_history, hp_this_ways, hp_this_pairing, hp_this_reader, hp_this_commandText, hp_this_line, hp_this_spareMoves⟩, hF⟩
      · rw [if_neg hcd] at hf
        refine lv_aload_n hx hb dX12_reductionsAgree_8 rfl (lv_at hl 0 rfl) ?_
        refine mm_get hC hM (k := 0) hc_this rfl inAX12 (by decide) q2_16 rfl dX12_reductionsAgree_9 ?_
        refine mm_get hC hM (k := 2) hp_this_marsh.1 rfl inAX6 (by decide) q1_144 rfl dX12_reductionsAgree_12 ?_
        refine lv_iload_n hx hb dX12_reductionsAgree_15 rfl (lv_at hl 1 rfl) ?_
        refine lv_aload_n hx hb dX12_reductionsAgree_16 rfl (lv_at hl 0 rfl) ?_
        refine mm_get hC hM (k := 8) hc_this rfl inAX12 (by decide) q2_24 rfl dX12_reductionsAgree_17 ?_
        obtain ⟨q20, hq20, hf⟩ := mm_bd hf
        refine mm_Vi (rest := []) hC hM (c_X8_lengthByStack l hq20 (hp_this_marsh.2.2.2.1) hp_this_spareMoves (by omega)) q2_217 q1_5 ykX8_lengthByStack q2_214 q2_215 q2_216 (hp_this_marsh.2.2.2.1).1 rfl ⟨rfl, rfl⟩ ⟨Nat.le_of_ble_eq_true rfl, Nat.le_of_ble_eq_true rfl⟩ rfl hl.1 rfl (Nat.le_of_ble_eq_true rfl) dX12_reductionsAgree_20 ⟨Nat.le_of_ble_eq_true rfl, Nat.le_of_ble_eq_true rfl⟩ (fun r w20 H locs hM hw => ?_)
        obtain ⟨hr, hn_p2, hfr⟩ := hw
        rw [hr]
        have hc_this := hfr.keep hc_this (by omega)
        have hp_this_marsh := hp_this_marsh.keep hfr (by omega)
        have hp_this_snapshot := hp_this_snapshot.keep hfr (by omega)
        have hp_this_history := hp_this_history.keep hfr (by omega)
        have hp_this_ways := hp_this_ways.keep hfr (by omega)
        have hp_this_pairing := hp_this_pairing.keep hfr (by omega)
        have hp_this_reader := hp_this_reader.keep hfr (by omega)
        have hp_this_commandText := hp_this_commandText.keep hfr (by omega)
        have hp_this_line := hp_this_line.keep hfr (by omega)
        have hp_this_spareMoves := hn_p2
        have hF := hF.tr (hfr.wide (by omega) (by omega))
        refine lv_aload_n hx hb dX12_reductionsAgree_23 rfl (lv_at hl 0 rfl) ?_
        refine mm_get hC hM (k := 0) hc_this rfl inAX12 (by decide) q2_16 rfl dX12_reductionsAgree_24 ?_
        refine mm_get hC hM (k := 2) hp_this_marsh.1 rfl inAX6 (by decide) q1_144 rfl dX12_reductionsAgree_27 ?_
        refine lv_iload_n hx hb dX12_reductionsAgree_30 rfl (lv_at hl 1 rfl) ?_
        refine lv_aload_n hx hb dX12_reductionsAgree_31 rfl (lv_at hl 0 rfl) ?_
        refine mm_get hC hM (k := 8) hc_this rfl inAX12 (by decide) q2_24 rfl dX12_reductionsAgree_32 ?_
        obtain ⟨q35, hq35, hf⟩ := mm_bd hf
        refine mm_Vi (rest := [.int q20.1]) hC hM (c_X8_lengthByPairs l hq35 (hp_this_marsh.2.2.2.1) hp_this_spareMoves (by omega)) q2_232 q1_5 ykX8_lengthByPairs q2_229 q2_230 q2_231 (hp_this_marsh.2.2.2.1).1 rfl ⟨rfl, rfl⟩ ⟨Nat.le_of_ble_eq_true rfl, Nat.le_of_ble_eq_true rfl⟩ rfl hl.1 rfl (Nat.le_of_ble_eq_true rfl) dX12_reductionsAgree_35 ⟨Nat.le_of_ble_eq_true rfl, Nat.le_of_ble_eq_true rfl⟩ (fun r w35 H locs hM hw => ?_)
        obtain ⟨hr, hn_p2, hfr⟩ := hw
        rw [hr]
        have hc_this := hfr.keep hc_this (by omega)
        have hp_this_marsh := hp_this_marsh.keep hfr (by omega)
        have hp_this_snapshot := hp_this_snapshot.keep hfr (by omega)
        have hp_this_history := hp_this_history.keep hfr (by omega)
        have hp_this_ways := hp_this_ways.keep hfr (by omega)
        have hp_this_pairing := hp_this_pairing.keep hfr (by omega)
        have hp_this_reader := hp_this_reader.keep hfr (by omega)
        have hp_this_commandText := hp_this_commandText.keep hfr (by omega)
        have hp_this_line := hp_this_line.keep hfr (by omega)
        have hp_this_spareMoves := hn_p2
        have hF := hF.tr (hfr.wide (by omega) (by omega))
        refine lv_icmp_eq (tgt := 43) hx hb dX12_reductionsAgree_38 (by decide) (fun hcd => ?_) (fun hcd => ?_)
        · rw [if_pos hcd] at hf
          refine lv_iinc (v := (L2_x1 + 1)) (lv' := [(1, .int (L2_x1 + 1)), (0, .ref b)]) hx hb dX12_reductionsAgree_43 hl (k := 1) rfl rfl (by decide) rfl (fun ls hl => ?_)
          refine lv_goto (tgt := 2) hx hb dX12_reductionsAgree_46 (by decide) ?_
          exact ih _ _ hf _ _ _ hM hc_this hp_this_spareMoves hp_this_marsh hp_this_snapshot hp_this_history hp_this_ways hp_this_pairing hp_this_reader hp_this_commandText hp_this_line hF _ (lv_sub hl [1, 0] rfl)
        · rw [if_neg hcd] at hf
          refine lv_iconst (v := 0) hx hb dX12_reductionsAgree_41 (by decide) ?_
          cases hf
          exact hret hM dX12_reductionsAgree_42 rfl ⟨rfl, ⟨hc_this, hp_this_marsh, hp_this_snapshot, hp_this_history, hp_this_ways, hp_this_pairing, hp_this_reader, hp_this_commandText, hp_this_line, hp_this_spareMoves⟩, hF⟩
  exact L2 K _ _ hf _ _ _ hM hc_this hp_this_spareMoves hp_this_marsh hp_this_snapshot hp_this_history hp_this_ways hp_this_pairing hp_this_reader hp_this_commandText hp_this_line hF _ (lv_sub hl [1, 0] rfl)
def f_X12_pairingsAgree (K : Nat) (marsh_landings_cells : Nat → Int32) (marsh_landings_count : Int32) (pairing_costs : Nat → Int32) (pairing_best : Nat → Int32) : Option (Int32 × (Nat → Int32) × (Nat → Int32)) := if (marsh_landings_count - marsh_landings_count / 2 * 2) = 0 then (f_X7_costByTable K pairing_costs pairing_best marsh_landings_cells marsh_landings_count).bind fun q26 => (f_X7_costByTrying K q26.2.1 marsh_landings_cells marsh_landings_count).bind fun q40 => if q26.1 = q40.1 then some (1, q40.2, q26.2.2) else some (0, q40.2, q26.2.2) else some (1, pairing_costs, pairing_best)
set_option maxHeartbeats 4000000 in
set_option maxRecDepth 100000 in
theorem c_X12_pairingsAgree (l : Launch) {G : mm_G} {K : Nat} {w : va_W} {sz : Nat} {b : Nat} {marsh_reeds_states : Nat → Int32} {marsh_reeds_count : Int32} {marsh_reeds_broken : Int32} {marsh_fleet_numbers : Nat → Int32} {marsh_fleet_cells : Nat → Int32} {marsh_fleet_fares : Nat → Int32} {marsh_fleet_count : Int32} {marsh_fleet_nextNumber : Int32} {marsh_fleet_total : Int32} {marsh_fleet_removedFares : Int32} {marsh_fleet_meetings : Int32} {marsh_plans_moves : Nat → Int32} {marsh_plans_lengths : Nat → Int32} {marsh_landings_cells : Nat → Int32} {marsh_landings_count : Int32} {marsh_fogSide : Int32} {snapshot_reeds_states : Nat → Int32} {snapshot_reeds_count : Int32} {snapshot_reeds_broken : Int32} {snapshot_fleet_numbers : Nat → Int32} {snapshot_fleet_cells : Nat → Int32} {snapshot_fleet_fares : Nat → Int32} {snapshot_fleet_count : Int32} {snapshot_fleet_nextNumber : Int32} {snapshot_fleet_total : Int32} {snapshot_fleet_removedFares : Int32} {snapshot_fleet_meetings : Int32} {snapshot_plans_moves : Nat → Int32} {snapshot_plans_lengths : Nat → Int32} {snapshot_landings_cells : Nat → Int32} {snapshot_landings_count : Int32} {snapshot_fogSide : Int32} {history_slots : Nat → mm_MV} {history_free : Int32} {history_count : Int32} {ways_tolls : Nat → Int32} {ways_queue : Nat → Int32} {ways_heap : Nat → Int32} {ways_heapSize : Int32} {ways_found : Nat → Int32} {ways_improved : Nat → Int32} {pairing_costs : Nat → Int32} {pairing_best : Nat → Int32} {reader_kinds : Nat → Int32} {reader_starts : Nat → Int32} {reader_count : Int32} {commandText_signs : Nat → Int32} {commandText_length : Int32} {line_signs : Nat → Int32} {line_length : Int32} {spareMoves : Nat → Int32} {snapshotTaken : Int32} {lastErrorPosition : Int32} {lastFailedCommand : Int32} {X : Int32 × (Nat → Int32) × (Nat → Int32)} (hf : f_X12_pairingsAgree K marsh_landings_cells marsh_landings_count pairing_costs pairing_best = some X) (hp_this : At12 G w b marsh_reeds_states marsh_reeds_count marsh_reeds_broken marsh_fleet_numbers marsh_fleet_cells marsh_fleet_fares marsh_fleet_count marsh_fleet_nextNumber marsh_fleet_total marsh_fleet_removedFares marsh_fleet_meetings marsh_plans_moves marsh_plans_lengths marsh_landings_cells marsh_landings_count marsh_fogSide snapshot_reeds_states snapshot_reeds_count snapshot_reeds_broken snapshot_fleet_numbers snapshot_fleet_cells snapshot_fleet_fares snapshot_fleet_count snapshot_fleet_nextNumber snapshot_fleet_total snapshot_fleet_removedFares snapshot_fleet_meetings snapshot_plans_moves snapshot_plans_lengths snapshot_landings_cells snapshot_landings_count snapshot_fogSide history_slots history_free history_count ways_tolls ways_queue ways_heap ways_heapSize ways_found ways_improved pairing_costs pairing_best reader_kinds reader_starts reader_count commandText_signs commandText_length line_signs line_length spareMoves snapshotTaken lastErrorPosition lastFailedCommand) : Met l yX12_pairingsAgree (Cond.code yX12_pairingsAgree cX12_pairingsAgree 1 (some .boolean) :: gAll) ({ frames := 8, cells := 0, slots := 0, locals := 193 }) (va_Pc [.ref b] (mm_Pre G w sz)) (mm_Qi G w sz (fun r w' => r = X.1 ∧ At12 G w' b marsh_reeds_states marsh_reeds_count marsh_reeds_broken marsh_fleet_numbers marsh_fleet_cells marsh_fleet_fares marsh_fleet_count marsh_fleet_nextNumber marsh_fleet_total marsh_fleet_removedFares marsh_fleet_meetings marsh_plans_moves marsh_plans_lengths marsh_landings_cells marsh_landings_count marsh_fogSide snapshot_reeds_states snapshot_reeds_count snapshot_reeds_broken snapshot_fleet_numbers snapshot_fleet_cells snapshot_fleet_fares snapshot_fleet_count snapshot_fleet_nextNumber snapshot_fleet_total snapshot_fleet_removedFares snapshot_fleet_meetings snapshot_plans_moves snapshot_plans_lengths snapshot_landings_cells snapshot_landings_count snapshot_fogSide history_slots history_free history_count ways_tolls ways_queue ways_heap ways_heapSize ways_found ways_improved X.2.1 X.2.2 reader_kinds reader_starts reader_count commandText_signs commandText_length line_signs line_length spareMoves snapshotTaken lastErrorPosition lastFailedCommand ∧ mm_fr w w' b (b + 152))) 0 0 (va_A w sz) := by
  refine mm_headI [.ref b] (by decide +kernel) rfl (Nat.le_of_ble_eq_true rfl) ?_
  intro p e s m args below meth c A Q hsz hC hM hret ls hl
  have hx := hC.1.1
  have hb := hC.1.2.1
  have hl : lv_has ls 1 [(0, .ref b)] := hl
  have hF : mm_fr w w b (b + 152) := mm_fr.rf
  rw [f_X12_pairingsAgree] at hf
  obtain ⟨hc_this, hp_this_marsh, hp_this_snapshot, hp_this_history, hp_this_ways, hp_this_pairing, hp_this_reader, hp_this_commandText, hp_this_line, hp_this_spareMoves⟩ := hp_this
  refine lv_aload_n hx hb dX12_pairingsAgree_0 rfl (lv_at hl 0 rfl) ?_
  refine mm_get hC hM (k := 0) hc_this rfl inAX12 (by decide) q2_16 rfl dX12_pairingsAgree_1 ?_
  refine mm_get hC hM (k := 3) hp_this_marsh.1 rfl inAX6 (by decide) q1_146 rfl dX12_pairingsAgree_4 ?_
  refine mm_get hC hM (k := 1) (hp_this_marsh.2.2.2.2).1 rfl inAX5 (by decide) q1_132 rfl dX12_pairingsAgree_7 ?_
  refine lv_iconst (v := 2) hx hb dX12_pairingsAgree_10 (by decide) ?_
  refine lv_irem hx hb dX12_pairingsAgree_11 (by decide) ?_
  refine lv_if_ne (tgt := 46) hx hb dX12_pairingsAgree_12 (by decide) (fun hcd => ?_) (fun hcd => ?_)
  · rw [if_neg hcd] at hf
    refine lv_iconst (v := 1) hx hb dX12_pairingsAgree_46 (by decide) ?_
    refine lv_goto (tgt := 51) hx hb dX12_pairingsAgree_47 (by decide) ?_
    cases hf
    exact hret hM dX12_pairingsAgree_51 rfl ⟨rfl, ⟨hc_this, hp_this_marsh, hp_this_snapshot, hp_this_history, hp_this_ways, hp_this_pairing, hp_this_reader, hp_this_commandText, hp_this_line, hp_this_spareMoves⟩, hF⟩
  · rw [if_pos hcd] at hf
    refine lv_aload_n hx hb dX12_pairingsAgree_15 rfl (lv_at hl 0 rfl) ?_
    refine mm_get hC hM (k := 4) hc_this rfl inAX12 (by decide) q2_20 rfl dX12_pairingsAgree_16 ?_
    refine lv_aload_n hx hb dX12_pairingsAgree_19 rfl (lv_at hl 0 rfl) ?_
    refine mm_get hC hM (k := 0) hc_this rfl inAX12 (by decide) q2_16 rfl dX12_pairingsAgree_20 ?_
    refine mm_get hC hM (k := 3) hp_this_marsh.1 rfl inAX6 (by decide) q1_146 rfl dX12_pairingsAgree_23 ?_
    obtain ⟨q26, hq26, hf⟩ := mm_bd hf
    refine mm_Vi (rest := []) hC hM (c_X7_costByTable l hq26 hp_this_pairing (hp_this_marsh.2.2.2.2) (by omega)) q3_6 q1_9 ykX7_costByTable q3_3 q3_4 q3_5 hp_this_pairing.1 rfl ⟨rfl, rfl⟩ ⟨Nat.le_of_ble_eq_true rfl, Nat.le_of_ble_eq_true rfl⟩ rfl hl.1 rfl (Nat.le_of_ble_eq_true rfl) dX12_pairingsAgree_26 ⟨Nat.le_of_ble_eq_true rfl, Nat.le_of_ble_eq_true rfl⟩ (fun r w26 H locs hM hw => ?_)
    obtain ⟨hr, hn_this, hfr⟩ := hw
    rw [hr]
    have hc_this := hfr.keep hc_this (by omega)
    have hp_this_spareMoves := hfr.keep hp_this_spareMoves (by omega)
    have hp_this_marsh := hp_this_marsh.keep hfr (by omega)
    have hp_this_snapshot := hp_this_snapshot.keep hfr (by omega)
    have hp_this_history := hp_this_history.keep hfr (by omega)
    have hp_this_ways := hp_this_ways.keep hfr (by omega)
    have hp_this_reader := hp_this_reader.keep hfr (by omega)
    have hp_this_commandText := hp_this_commandText.keep hfr (by omega)
    have hp_this_line := hp_this_line.keep hfr (by omega)
    have hp_this_pairing := hn_this
    have hF := hF.tr (hfr.wide (by omega) (by omega))
    refine lv_aload_n hx hb dX12_pairingsAgree_29 rfl (lv_at hl 0 rfl) ?_
    refine mm_get hC hM (k := 4) hc_this rfl inAX12 (by decide) q2_20 rfl dX12_pairingsAgree_30 ?_
    refine lv_aload_n hx hb dX12_pairingsAgree_33 rfl (lv_at hl 0 rfl) ?_
    refine mm_get hC hM (k := 0) hc_this rfl inAX12 (by decide) q2_16 rfl dX12_pairingsAgree_34 ?_
    refine mm_get hC hM (k := 3) hp_this_marsh.1 rfl inAX6 (by decide) q1_146 rfl dX12_pairingsAgree_37 ?_
    obtain ⟨q40, hq40, hf⟩ := mm_bd hf
    refine mm_Vi (rest := [.int q26.1]) hC hM (c_X7_costByTrying l hq40 hp_this_pairing (hp_this_marsh.2.2.2.2) (by omega)) q3_54 q1_9 ykX7_costByTrying q3_51 q3_52 q3_53 hp_this_pairing.1 rfl ⟨rfl, rfl⟩ ⟨Nat.le_of_ble_eq_true rfl, Nat.le_of_ble_eq_true rfl⟩ rfl hl.1 rfl (Nat.le_of_ble_eq_true rfl) dX12_pairingsAgree_40 ⟨Nat.le_of_ble_eq_true rfl, Nat.le_of_ble_eq_true rfl⟩ (fun r w40 H locs hM hw => ?_)
    obtain ⟨hr, hn_this, hfr⟩ := hw
    rw [hr]
    have hc_this := hfr.keep hc_this (by omega)
    have hp_this_spareMoves := hfr.keep hp_this_spareMoves (by omega)
    have hp_this_marsh := hp_this_marsh.keep hfr (by omega)
    have hp_this_snapshot := hp_this_snapshot.keep hfr (by omega)
    have hp_this_history := hp_this_history.keep hfr (by omega)
    have hp_this_ways := hp_this_ways.keep hfr (by omega)
    have hp_this_reader := hp_this_reader.keep hfr (by omega)
    have hp_this_commandText := hp_this_commandText.keep hfr (by omega)
    have hp_this_line := hp_this_line.keep hfr (by omega)
    have hp_this_pairing := hn_this
    have hF := hF.tr (hfr.wide (by omega) (by omega))
    refine lv_icmp_ne (tgt := 50) hx hb dX12_pairingsAgree_43 (by decide) (fun hcd => ?_) (fun hcd => ?_)
    · rw [if_neg hcd] at hf
      refine lv_iconst (v := 0) hx hb dX12_pairingsAgree_50 (by decide) ?_
      cases hf
      exact hret hM dX12_pairingsAgree_51 rfl ⟨rfl, ⟨hc_this, hp_this_marsh, hp_this_snapshot, hp_this_history, hp_this_ways, hp_this_pairing, hp_this_reader, hp_this_commandText, hp_this_line, hp_this_spareMoves⟩, hF⟩
    · rw [if_pos hcd] at hf
      refine lv_iconst (v := 1) hx hb dX12_pairingsAgree_46 (by decide) ?_
      refine lv_goto (tgt := 51) hx hb dX12_pairingsAgree_47 (by decide) ?_
      cases hf
      exact hret hM dX12_pairingsAgree_51 rfl ⟨rfl, ⟨hc_this, hp_this_marsh, hp_this_snapshot, hp_this_history, hp_this_ways, hp_this_pairing, hp_this_reader, hp_this_commandText, hp_this_line, hp_this_spareMoves⟩, hF⟩
def f_X12_isConsistent (K : Nat) (marsh_reeds_states : Nat → Int32) (marsh_fleet_cells : Nat → Int32) (marsh_fleet_fares : Nat → Int32) (marsh_fleet_count : Int32) (marsh_fleet_total : Int32) (marsh_fleet_removedFares : Int32) (marsh_plans_moves : Nat → Int32) (marsh_plans_lengths : Nat → Int32) (marsh_landings_cells : Nat → Int32) (marsh_landings_count : Int32) (marsh_fogSide : Int32) (ways_tolls : Nat → Int32) (ways_queue : Nat → Int32) (ways_heap : Nat → Int32) (ways_heapSize : Int32) (ways_found : Nat → Int32) (ways_improved : Nat → Int32) (pairing_costs : Nat → Int32) (pairing_best : Nat → Int32) (spareMoves : Nat → Int32) : Option (Int32 × (Nat → Int32) × (Nat → Int32) × (Nat → Int32) × Int32 × (Nat → Int32) × (Nat → Int32) × (Nat → Int32) × (Nat → Int32) × (Nat → Int32)) := (f_X12_waysAgree K marsh_reeds_states marsh_fleet_cells marsh_fleet_count marsh_fogSide ways_tolls ways_queue ways_heap ways_heapSize ways_found ways_improved).bind fun q1 => if q1.1 = 0 then some (0, q1.2.1, q1.2.2.1, q1.2.2.2.1, q1.2.2.2.2.1, q1.2.2.2.2.2.1, q1.2.2.2.2.2.2, pairing_costs, pairing_best, spareMoves) else (f_X9_oddByCells K marsh_reeds_states).bind fun q14 => (f_X9_oddByRows K marsh_reeds_states).bind fun q24 => if q14 = q24 then (f_X12_reductionsAgree K marsh_plans_moves marsh_plans_lengths spareMoves).bind fun q31 => if q31.1 = 0 then some (0, q1.2.1, q1.2.2.1, q1.2.2.2.1, q1.2.2.2.2.1, q1.2.2.2.2.2.1, q1.2.2.2.2.2.2, pairing_costs, pairing_best, q31.2) else (f_X12_pairingsAgree K marsh_landings_cells marsh_landings_count pairing_costs pairing_best).bind fun q38 => if q38.1 = 0 then some (0, q1.2.1, q1.2.2.1, q1.2.2.2.1, q1.2.2.2.2.1, q1.2.2.2.2.2.1, q1.2.2.2.2.2.2, q38.2.1, q38.2.2, q31.2) else (f_X12_fareTotal marsh_fleet_total).bind fun q45 => (f_X12_fareTotalByBoats K marsh_fleet_fares marsh_fleet_count marsh_fleet_removedFares).bind fun q49 => if q45 = q49 then some (1, q1.2.1, q1.2.2.1, q1.2.2.2.1, q1.2.2.2.2.1, q1.2.2.2.2.2.1, q1.2.2.2.2.2.2, q38.2.1, q38.2.2, q31.2) else some (0, q1.2.1, q1.2.2.1, q1.2.2.2.1, q1.2.2.2.2.1, q1.2.2.2.2.2.1, q1.2.2.2.2.2.2, q38.2.1, q38.2.2, q31.2) else some (0, q1.2.1, q1.2.2.1, q1.2.2.2.1, q1.2.2.2.2.1, q1.2.2.2.2.2.1, q1.2.2.2.2.2.2, pairing_costs, pairing_best, spareMoves)
set_option maxHeartbeats 4000000 in
set_option maxRecDepth 100000 in
theorem c_X12_isConsistent (l : Launch) {G : mm_G} {K : Nat} {w : va_W} {sz : Nat} {b : Nat} {marsh_reeds_states : Nat → Int32} {marsh_reeds_count : Int32} {marsh_reeds_broken : Int32} {marsh_fleet_numbers : Nat → Int32} {marsh_fleet_cells : Nat → Int32} {marsh_fleet_fares : Nat → Int32} {marsh_fleet_count : Int32} {marsh_fleet_nextNumber : Int32} {marsh_fleet_total : Int32} {marsh_fleet_removedFares : Int32} {marsh_fleet_meetings : Int32} {marsh_plans_moves : Nat → Int32} {marsh_plans_lengths : Nat → Int32} {marsh_landings_cells : Nat → Int32} {marsh_landings_count : Int32} {marsh_fogSide : Int32} {snapshot_reeds_states : Nat → Int32} {snapshot_reeds_count : Int32} {snapshot_reeds_broken : Int32} {snapshot_fleet_numbers : Nat → Int32} {snapshot_fleet_cells : Nat → Int32} {snapshot_fleet_fares : Nat → Int32} {snapshot_fleet_count : Int32} {snapshot_fleet_nextNumber : Int32} {snapshot_fleet_total : Int32} {snapshot_fleet_removedFares : Int32} {snapshot_fleet_meetings : Int32} {snapshot_plans_moves : Nat → Int32} {snapshot_plans_lengths : Nat → Int32} {snapshot_landings_cells : Nat → Int32} {snapshot_landings_count : Int32} {snapshot_fogSide : Int32} {history_slots : Nat → mm_MV} {history_free : Int32} {history_count : Int32} {ways_tolls : Nat → Int32} {ways_queue : Nat → Int32} {ways_heap : Nat → Int32} {ways_heapSize : Int32} {ways_found : Nat → Int32} {ways_improved : Nat → Int32} {pairing_costs : Nat → Int32} {pairing_best : Nat → Int32} {reader_kinds : Nat → Int32} {reader_starts : Nat → Int32} {reader_count : Int32} {commandText_signs : Nat → Int32} {commandText_length : Int32} {line_signs : Nat → Int32} {line_length : Int32} {spareMoves : Nat → Int32} {snapshotTaken : Int32} {lastErrorPosition : Int32} {lastFailedCommand : Int32} {X : Int32 × (Nat → Int32) × (Nat → Int32) × (Nat → Int32) × Int32 × (Nat → Int32) × (Nat → Int32) × (Nat → Int32) × (Nat → Int32) × (Nat → Int32)} (hf : f_X12_isConsistent K marsh_reeds_states marsh_fleet_cells marsh_fleet_fares marsh_fleet_count marsh_fleet_total marsh_fleet_removedFares marsh_plans_moves marsh_plans_lengths marsh_landings_cells marsh_landings_count marsh_fogSide ways_tolls ways_queue ways_heap ways_heapSize ways_found ways_improved pairing_costs pairing_best spareMoves = some X) (hp_this : At12 G w b marsh_reeds_states marsh_reeds_count marsh_reeds_broken marsh_fleet_numbers marsh_fleet_cells marsh_fleet_fares marsh_fleet_count marsh_fleet_nextNumber marsh_fleet_total marsh_fleet_removedFares marsh_fleet_meetings marsh_plans_moves marsh_plans_lengths marsh_landings_cells marsh_landings_count marsh_fogSide snapshot_reeds_states snapshot_reeds_count snapshot_reeds_broken snapshot_fleet_numbers snapshot_fleet_cells snapshot_fleet_fares snapshot_fleet_count snapshot_fleet_nextNumber snapshot_fleet_total snapshot_fleet_removedFares snapshot_fleet_meetings snapshot_plans_moves snapshot_plans_lengths snapshot_landings_cells snapshot_landings_count snapshot_fogSide history_slots history_free history_count ways_tolls ways_queue ways_heap ways_heapSize ways_found ways_improved pairing_costs pairing_best reader_kinds reader_starts reader_count commandText_signs commandText_length line_signs line_length spareMoves snapshotTaken lastErrorPosition lastFailedCommand) : Met l yX12_isConsistent (Cond.code yX12_isConsistent cX12_isConsistent 1 (some .boolean) :: gAll) ({ frames := 9, cells := 0, slots := 0, locals := 213 }) (va_Pc [.ref b] (mm_Pre G w sz)) (mm_Qi G w sz (fun r w' => r = X.1 ∧ At12 G w' b marsh_reeds_states marsh_reeds_count marsh_reeds_broken marsh_fleet_numbers marsh_fleet_cells marsh_fleet_fares marsh_fleet_count marsh_fleet_nextNumber marsh_fleet_total marsh_fleet_removedFares marsh_fleet_meetings marsh_plans_moves marsh_plans_lengths marsh_landings_cells marsh_landings_count marsh_fogSide snapshot_reeds_states snapshot_reeds_count snapshot_reeds_broken snapshot_fleet_numbers snapshot_fleet_cells snapshot_fleet_fares snapshot_fleet_count snapshot_fleet_nextNumber snapshot_fleet_total snapshot_fleet_removedFares snapshot_fleet_meetings snapshot_plans_moves snapshot_plans_lengths snapshot_landings_cells snapshot_landings_count snapshot_fogSide history_slots history_free history_count X.2.1 X.2.2.1 X.2.2.2.1 X.2.2.2.2.1 X.2.2.2.2.2.1 X.2.2.2.2.2.2.1 X.2.2.2.2.2.2.2.1 X.2.2.2.2.2.2.2.2.1 reader_kinds reader_starts reader_count commandText_signs commandText_length line_signs line_length X.2.2.2.2.2.2.2.2.2 snapshotTaken lastErrorPosition lastFailedCommand ∧ mm_fr w w' b (b + 152))) 0 0 (va_A w sz) := by
  refine mm_headI [.ref b] (by decide +kernel) rfl (Nat.le_of_ble_eq_true rfl) ?_
  intro p e s m args below meth c A Q hsz hC hM hret ls hl
  have hx := hC.1.1
  have hb := hC.1.2.1
  have hl : lv_has ls 1 [(0, .ref b)] := hl
  have hF : mm_fr w w b (b + 152) := mm_fr.rf
  rw [f_X12_isConsistent] at hf
  refine lv_aload_n hx hb dX12_isConsistent_0 rfl (lv_at hl 0 rfl) ?_
  obtain ⟨q1, hq1, hf⟩ := mm_bd hf
  refine mm_Vi (rest := []) hC hM (c_X12_waysAgree l hq1 hp_this) q2_138 q1_1 ykX12_waysAgree q2_135 q2_137 qp_6e3cc0d3 hp_this.1 rfl ⟨rfl, rfl⟩ ⟨Nat.le_of_ble_eq_true rfl, Nat.le_of_ble_eq_true rfl⟩ rfl hl.1 rfl (Nat.le_of_ble_eq_true rfl) dX12_isConsistent_1 ⟨Nat.le_of_ble_eq_true rfl, Nat.le_of_ble_eq_true rfl⟩ (fun r w1 H locs hM hw => ?_)
  obtain ⟨hr, hn_this, hfr⟩ := hw
  rw [hr]
  have hp_this := hn_this
  have hF := hF.tr (hfr.wide (by omega) (by omega))
  refine lv_if_eq (tgt := 59) hx hb dX12_isConsistent_4 (by decide) (fun hcd => ?_) (fun hcd => ?_)
  · rw [if_pos hcd] at hf
    refine lv_iconst (v := 0) hx hb dX12_isConsistent_59 (by decide) ?_
    cases hf
    exact hret hM dX12_isConsistent_60 rfl ⟨rfl, hp_this, hF⟩
  · rw [if_neg hcd] at hf
    refine lv_aload_n hx hb dX12_isConsistent_7 rfl (lv_at hl 0 rfl) ?_
    refine mm_get hC hM (k := 0) hp_this.1 rfl inAX12 (by decide) q2_16 rfl dX12_isConsistent_8 ?_
    refine mm_get hC hM (k := 0) (hp_this.2.1).1 rfl inAX6 (by decide) q1_140 rfl dX12_isConsistent_11 ?_
    obtain ⟨q14, hq14, hf⟩ := mm_bd hf
    refine mm_Vi (rest := []) hC hM (c_X9_oddByCells l hq14 ((hp_this.2.1).2.1)) q2_68 q1_3 ykX9_oddByCells q2_65 q2_66 q2_67 ((hp_this.2.1).2.1).1 rfl ⟨rfl, rfl⟩ ⟨Nat.le_of_ble_eq_true rfl, Nat.le_of_ble_eq_true rfl⟩ rfl hl.1 rfl (Nat.le_of_ble_eq_true rfl) dX12_isConsistent_14 ⟨Nat.le_of_ble_eq_true rfl, Nat.le_of_ble_eq_true rfl⟩ (fun r w14 H locs hM hw => ?_)
    obtain ⟨hr, hw⟩ := hw
    rw [hr]
    rw [hw] at hM
    refine lv_aload_n hx hb dX12_isConsistent_17 rfl (lv_at hl 0 rfl) ?_
    refine mm_get hC hM (k := 0) hp_this.1 rfl inAX12 (by decide) q2_16 rfl dX12_isConsistent_18 ?_
    refine mm_get hC hM (k := 0) (hp_this.2.1).1 rfl inAX6 (by decide) q1_140 rfl dX12_isConsistent_21 ?_
    obtain ⟨q24, hq24, hf⟩ := mm_bd hf
    refine mm_Vi (rest := [.int q14]) hC hM (c_X9_oddByRows l hq24 ((hp_this.2.1).2.1)) q2_83 q1_3 ykX9_oddByRows q2_80 q2_81 q2_82 ((hp_this.2.1).2.1).1 rfl ⟨rfl, rfl⟩ ⟨Nat.le_of_ble_eq_true rfl, Nat.le_of_ble_eq_true rfl⟩ rfl hl.1 rfl (Nat.le_of_ble_eq_true rfl) dX12_isConsistent_24 ⟨Nat.le_of_ble_eq_true rfl, Nat.le_of_ble_eq_true rfl⟩ (fun r w24 H locs hM hw => ?_)
    obtain ⟨hr, hw⟩ := hw
    rw [hr]
    rw [hw] at hM
    refine lv_icmp_ne (tgt := 59) hx hb dX12_isConsistent_27 (by decide) (fun hcd => ?_) (fun hcd => ?_)
    · rw [if_neg hcd] at hf
      refine lv_iconst (v := 0) hx hb dX12_isConsistent_59 (by decide) ?_
      cases hf
      exact hret hM dX12_isConsistent_60 rfl ⟨rfl, hp_this, hF⟩
    · rw [if_pos hcd] at hf
      refine lv_aload_n hx hb dX12_isConsistent_30 rfl (lv_at hl 0 rfl) ?_
      obtain ⟨q31, hq31, hf⟩ := mm_bd hf
      refine mm_Vi (rest := []) hC hM (c_X12_reductionsAgree l hq31 hp_this) q2_213 q1_1 ykX12_reductionsAgree q2_210 q2_212 qp_90792a68 hp_this.1 rfl ⟨rfl, rfl⟩ ⟨Nat.le_of_ble_eq_true rfl, Nat.le_of_ble_eq_true rfl⟩ rfl hl.1 rfl (Nat.le_of_ble_eq_true rfl) dX12_isConsistent_31 ⟨Nat.le_of_ble_eq_true rfl, Nat.le_of_ble_eq_true rfl⟩ (fun r w31 H locs hM hw => ?_)
      obtain ⟨hr, hn_this, hfr⟩ := hw
      rw [hr]
      have hp_this := hn_this
      have hF := hF.tr (hfr.wide (by omega) (by omega))
      refine lv_if_eq (tgt := 59) hx hb dX12_isConsistent_34 (by decide) (fun hcd => ?_) (fun hcd => ?_)
      · rw [if_pos hcd] at hf
        refine lv_iconst (v := 0) hx hb dX12_isConsistent_59 (by decide) ?_
        cases hf
        exact hret hM dX12_isConsistent_60 rfl ⟨rfl, hp_this, hF⟩
      · rw [if_neg hcd] at hf
        refine lv_aload_n hx hb dX12_isConsistent_37 rfl (lv_at hl 0 rfl) ?_
        obtain ⟨q38, hq38, hf⟩ := mm_bd hf
        refine mm_Vi (rest := []) hC hM (c_X12_pairingsAgree l hq38 hp_this) q3_2 q1_1 ykX12_pairingsAgree q2_239 q3_1 qp_4ac75620 hp_this.1 rfl ⟨rfl, rfl⟩ ⟨Nat.le_of_ble_eq_true rfl, Nat.le_of_ble_eq_true rfl⟩ rfl hl.1 rfl (Nat.le_of_ble_eq_true rfl) dX12_isConsistent_38 ⟨Nat.le_of_ble_eq_true rfl, Nat.le_of_ble_eq_true rfl⟩ (fun r w38 H locs hM hw => ?_)
        obtain ⟨hr, hn_this, hfr⟩ := hw
        rw [hr]
        have hp_this := hn_this
        have hF := hF.tr (hfr.wide (by omega) (by omega))
        refine lv_if_eq (tgt := 59) hx hb dX12_isConsistent_41 (by decide) (fun hcd => ?_) (fun hcd => ?_)
        · rw [if_pos hcd] at hf
          refine lv_iconst (v := 0) hx hb dX12_isConsistent_59 (by decide) ?_
          cases hf
          exact hret hM dX12_isConsistent_60 rfl ⟨rfl, hp_this, hF⟩
        · rw [if_neg hcd] at hf
          refine lv_aload_n hx hb dX12_isConsistent_44 rfl (lv_at hl 0 rfl) ?_
          obtain ⟨q45, hq45, hf⟩ := mm_bd hf
          refine mm_Vi (rest := []) hC hM (c_X12_fareTotal l hq45 hp_this) q2_105 q1_1 ykX12_fareTotal q3_58 q2_103 q2_104 hp_this.1 rfl ⟨rfl, rfl⟩ ⟨Nat.le_of_ble_eq_true rfl, Nat.le_of_ble_eq_true rfl⟩ rfl hl.1 rfl (Nat.le_of_ble_eq_true rfl) dX12_isConsistent_45 ⟨Nat.le_of_ble_eq_true rfl, Nat.le_of_ble_eq_true rfl⟩ (fun r w45 H locs hM hw => ?_)
          obtain ⟨hr, hw⟩ := hw
          rw [hr]
          rw [hw] at hM
          refine lv_aload_n hx hb dX12_isConsistent_48 rfl (lv_at hl 0 rfl) ?_
          obtain ⟨q49, hq49, hf⟩ := mm_bd hf
          refine mm_Vi (rest := [.int q45]) hC hM (c_X12_fareTotalByBoats l hq49 hp_this) q2_109 q1_1 ykX12_fareTotalByBoats q3_59 q2_107 q2_108 hp_this.1 rfl ⟨rfl, rfl⟩ ⟨Nat.le_of_ble_eq_true rfl, Nat.le_of_ble_eq_true rfl⟩ rfl hl.1 rfl (Nat.le_of_ble_eq_true rfl) dX12_isConsistent_49 ⟨Nat.le_of_ble_eq_true rfl, Nat.le_of_ble_eq_true rfl⟩ (fun r w49 H locs hM hw => ?_)
          obtain ⟨hr, hw⟩ := hw
          rw [hr]
          rw [hw] at hM
          refine lv_icmp_ne (tgt := 59) hx hb dX12_isConsistent_52 (by decide) (fun hcd => ?_) (fun hcd => ?_)
          · rw [if_neg hcd] at hf
            refine lv_iconst (v := 0) hx hb dX12_isConsistent_59 (by decide) ?_
            cases hf
            exact hret hM dX12_isConsistent_60 rfl ⟨rfl, hp_this, hF⟩
          · rw [if_pos hcd] at hf
            refine lv_iconst (v := 1) hx hb dX12_isConsistent_55 (by decide) ?_
            refine lv_goto (tgt := 60) hx hb dX12_isConsistent_56 (by decide) ?_
            cases hf
            exact hret hM dX12_isConsistent_60 rfl ⟨rfl, hp_this, hF⟩
def f_X12_undo (marsh_reeds_states : Nat → Int32) (marsh_reeds_count : Int32) (marsh_reeds_broken : Int32) (marsh_fleet_numbers : Nat → Int32) (marsh_fleet_cells : Nat → Int32) (marsh_fleet_fares : Nat → Int32) (marsh_fleet_count : Int32) (marsh_fleet_nextNumber : Int32) (marsh_fleet_total : Int32) (marsh_fleet_removedFares : Int32) (marsh_fleet_meetings : Int32) (marsh_plans_moves : Nat → Int32) (marsh_plans_lengths : Nat → Int32) (marsh_landings_cells : Nat → Int32) (marsh_landings_count : Int32) (marsh_fogSide : Int32) (history_slots : Nat → mm_MV) (history_free : Int32) (history_count : Int32) : Option (Nat × Int32 × (Nat → Int32) × Int32 × Int32 × (Nat → Int32) × (Nat → Int32) × (Nat → Int32) × Int32 × Int32 × Int32 × Int32 × Int32 × (Nat → Int32) × (Nat → Int32) × (Nat → Int32) × Int32 × Int32 × Int32 × Int32) := if history_count = 0 then some (3, 0, marsh_reeds_states, marsh_reeds_count, marsh_reeds_broken, marsh_fleet_numbers, marsh_fleet_cells, marsh_fleet_fares, marsh_fleet_count, marsh_fleet_nextNumber, marsh_fleet_total, marsh_fleet_removedFares, marsh_fleet_meetings, marsh_plans_moves, marsh_plans_lengths, marsh_landings_cells, marsh_landings_count, marsh_fogSide, history_free, history_count) else (f_X4_takeBack history_slots history_free history_count marsh_reeds_states marsh_fleet_numbers marsh_fleet_cells marsh_fleet_fares marsh_plans_moves marsh_plans_lengths marsh_landings_cells).bind fun q26 => some (0, q26.2.1, q26.2.2.1, q26.2.2.2.1, q26.2.2.2.2.1, q26.2.2.2.2.2.1, q26.2.2.2.2.2.2.1, q26.2.2.2.2.2.2.2.1, q26.2.2.2.2.2.2.2.2.1, q26.2.2.2.2.2.2.2.2.2.1, q26.2.2.2.2.2.2.2.2.2.2.1, q26.2.2.2.2.2.2.2.2.2.2.2.1, q26.2.2.2.2.2.2.2.2.2.2.2.2.1, q26.2.2.2.2.2.2.2.2.2.2.2.2.2.1, q26.2.2.2.2.2.2.2.2.2.2.2.2.2.2.1, q26.2.2.2.2.2.2.2.2.2.2.2.2.2.2.2.1, q26.2.2.2.2.2.2.2.2.2.2.2.2.2.2.2.2.1, q26.2.2.2.2.2.2.2.2.2.2.2.2.2.2.2.2.2, q26.1, q26.2.1)
set_option maxHeartbeats 4000000 in
set_option maxRecDepth 100000 in
theorem c_X12_undo (l : Launch) (hfl : l.stackTraces = false) {G : mm_G} {w : va_W} {sz : Nat} {b : Nat} {marsh_reeds_states : Nat → Int32} {marsh_reeds_count : Int32} {marsh_reeds_broken : Int32} {marsh_fleet_numbers : Nat → Int32} {marsh_fleet_cells : Nat → Int32} {marsh_fleet_fares : Nat → Int32} {marsh_fleet_count : Int32} {marsh_fleet_nextNumber : Int32} {marsh_fleet_total : Int32} {marsh_fleet_removedFares : Int32} {marsh_fleet_meetings : Int32} {marsh_plans_moves : Nat → Int32} {marsh_plans_lengths : Nat → Int32} {marsh_landings_cells : Nat → Int32} {marsh_landings_count : Int32} {marsh_fogSide : Int32} {snapshot_reeds_states : Nat → Int32} {snapshot_reeds_count : Int32} {snapshot_reeds_broken : Int32} {snapshot_fleet_numbers : Nat → Int32} {snapshot_fleet_cells : Nat → Int32} {snapshot_fleet_fares : Nat → Int32} {snapshot_fleet_count : Int32} {snapshot_fleet_nextNumber : Int32} {snapshot_fleet_total : Int32} {snapshot_fleet_removedFares : Int32} {snapshot_fleet_meetings : Int32} {snapshot_plans_moves : Nat → Int32} {snapshot_plans_lengths : Nat → Int32} {snapshot_landings_cells : Nat → Int32} {snapshot_landings_count : Int32} {snapshot_fogSide : Int32} {history_slots : Nat → mm_MV} {history_free : Int32} {history_count : Int32} {ways_tolls : Nat → Int32} {ways_queue : Nat → Int32} {ways_heap : Nat → Int32} {ways_heapSize : Int32} {ways_found : Nat → Int32} {ways_improved : Nat → Int32} {pairing_costs : Nat → Int32} {pairing_best : Nat → Int32} {reader_kinds : Nat → Int32} {reader_starts : Nat → Int32} {reader_count : Int32} {commandText_signs : Nat → Int32} {commandText_length : Int32} {line_signs : Nat → Int32} {line_length : Int32} {spareMoves : Nat → Int32} {snapshotTaken : Int32} {lastErrorPosition : Int32} {lastFailedCommand : Int32} {X : Nat × Int32 × (Nat → Int32) × Int32 × Int32 × (Nat → Int32) × (Nat → Int32) × (Nat → Int32) × Int32 × Int32 × Int32 × Int32 × Int32 × (Nat → Int32) × (Nat → Int32) × (Nat → Int32) × Int32 × Int32 × Int32 × Int32} (hf : f_X12_undo marsh_reeds_states marsh_reeds_count marsh_reeds_broken marsh_fleet_numbers marsh_fleet_cells marsh_fleet_fares marsh_fleet_count marsh_fleet_nextNumber marsh_fleet_total marsh_fleet_removedFares marsh_fleet_meetings marsh_plans_moves marsh_plans_lengths marsh_landings_cells marsh_landings_count marsh_fogSide history_slots history_free history_count = some X) (hp_this : At12 G w b marsh_reeds_states marsh_reeds_count marsh_reeds_broken marsh_fleet_numbers marsh_fleet_cells marsh_fleet_fares marsh_fleet_count marsh_fleet_nextNumber marsh_fleet_total marsh_fleet_removedFares marsh_fleet_meetings marsh_plans_moves marsh_plans_lengths marsh_landings_cells marsh_landings_count marsh_fogSide snapshot_reeds_states snapshot_reeds_count snapshot_reeds_broken snapshot_fleet_numbers snapshot_fleet_cells snapshot_fleet_fares snapshot_fleet_count snapshot_fleet_nextNumber snapshot_fleet_total snapshot_fleet_removedFares snapshot_fleet_meetings snapshot_plans_moves snapshot_plans_lengths snapshot_landings_cells snapshot_landings_count snapshot_fogSide history_slots history_free history_count ways_tolls ways_queue ways_heap ways_heapSize ways_found ways_improved pairing_costs pairing_best reader_kinds reader_starts reader_count commandText_signs commandText_length line_signs line_length spareMoves snapshotTaken lastErrorPosition lastFailedCommand) : vx_Met l yX12_undo (Cond.code yX12_undo cX12_undo 1 (some .int) :: gAll) ({ frames := 7, cells := 1, slots := 6, locals := 123 }) (va_Pc [.ref b] (mm_Pre G w sz)) (mm_Qi G w sz (fun r w' => X.1 = 0 ∧ r = X.2.1 ∧ At12 G w' b X.2.2.1 X.2.2.2.1 X.2.2.2.2.1 X.2.2.2.2.2.1 X.2.2.2.2.2.2.1 X.2.2.2.2.2.2.2.1 X.2.2.2.2.2.2.2.2.1 X.2.2.2.2.2.2.2.2.2.1 X.2.2.2.2.2.2.2.2.2.2.1 X.2.2.2.2.2.2.2.2.2.2.2.1 X.2.2.2.2.2.2.2.2.2.2.2.2.1 X.2.2.2.2.2.2.2.2.2.2.2.2.2.1 X.2.2.2.2.2.2.2.2.2.2.2.2.2.2.1 X.2.2.2.2.2.2.2.2.2.2.2.2.2.2.2.1 X.2.2.2.2.2.2.2.2.2.2.2.2.2.2.2.2.1 X.2.2.2.2.2.2.2.2.2.2.2.2.2.2.2.2.2.1 snapshot_reeds_states snapshot_reeds_count snapshot_reeds_broken snapshot_fleet_numbers snapshot_fleet_cells snapshot_fleet_fares snapshot_fleet_count snapshot_fleet_nextNumber snapshot_fleet_total snapshot_fleet_removedFares snapshot_fleet_meetings snapshot_plans_moves snapshot_plans_lengths snapshot_landings_cells snapshot_landings_count snapshot_fogSide history_slots X.2.2.2.2.2.2.2.2.2.2.2.2.2.2.2.2.2.2.1 X.2.2.2.2.2.2.2.2.2.2.2.2.2.2.2.2.2.2.2 ways_tolls ways_queue ways_heap ways_heapSize ways_found ways_improved pairing_costs pairing_best reader_kinds reader_starts reader_count commandText_signs commandText_length line_signs line_length spareMoves snapshotTaken lastErrorPosition lastFailedCommand ∧ mm_fr w w' b (b + 152))) (mm_QX G w sz (fun E w' => X.1 ≠ 0 ∧ E = mm_ex X.1 ∧ At12 G w' b X.2.2.1 X.2.2.2.1 X.2.2.2.2.1 X.2.2.2.2.2.1 X.2.2.2.2.2.2.1 X.2.2.2.2.2.2.2.1 X.2.2.2.2.2.2.2.2.1 X.2.2.2.2.2.2.2.2.2.1 X.2.2.2.2.2.2.2.2.2.2.1 X.2.2.2.2.2.2.2.2.2.2.2.1 X.2.2.2.2.2.2.2.2.2.2.2.2.1 X.2.2.2.2.2.2.2.2.2.2.2.2.2.1 X.2.2.2.2.2.2.2.2.2.2.2.2.2.2.1 X.2.2.2.2.2.2.2.2.2.2.2.2.2.2.2.1 X.2.2.2.2.2.2.2.2.2.2.2.2.2.2.2.2.1 X.2.2.2.2.2.2.2.2.2.2.2.2.2.2.2.2.2.1 snapshot_reeds_states snapshot_reeds_count snapshot_reeds_broken snapshot_fleet_numbers snapshot_fleet_cells snapshot_fleet_fares snapshot_fleet_count snapshot_fleet_nextNumber snapshot_fleet_total snapshot_fleet_removedFares snapshot_fleet_meetings snapshot_plans_moves snapshot_plans_lengths snapshot_landings_cells snapshot_landings_count snapshot_fogSide history_slots X.2.2.2.2.2.2.2.2.2.2.2.2.2.2.2.2.2.2.1 X.2.2.2.2.2.2.2.2.2.2.2.2.2.2.2.2.2.2.2 ways_tolls ways_queue ways_heap ways_heapSize ways_found ways_improved pairing_costs pairing_best reader_kinds reader_starts reader_count commandText_signs commandText_length line_signs line_length spareMoves snapshotTaken lastErrorPosition lastFailedCommand ∧ mm_fr w w' b (b + 152))) 1 6 (va_A w sz) := by
  refine mm_xheadI hfl [.ref b] (by decide +kernel) rfl (Nat.le_of_ble_eq_true rfl) rfl rfl ?_
  intro p e s m args below meth c A Q hsz hC hM hret hprop hthrow ls hl
  have hx := hC.1.1
  have hb := hC.1.2.1
  have hl : lv_has ls 1 [(0, .ref b)] := hl
  have hF : mm_fr w w b (b + 152) := mm_fr.rf
  rw [f_X12_undo] at hf
  obtain ⟨hc_this, hp_this_marsh, hp_this_snapshot, hp_this_history, hp_this_ways, hp_this_pairing, hp_this_reader, hp_this_commandText, hp_this_line, hp_this_spareMoves⟩ := hp_this
  refine lv_aload_n hx hb dX12_undo_0 rfl (lv_at hl 0 rfl) ?_
  refine mm_get hC hM (k := 2) hc_this rfl inAX12 (by decide) q2_18 rfl dX12_undo_1 ?_
  refine mm_get hC hM (k := 2) hp_this_history.1 rfl inAX4 (by decide) q1_172 rfl dX12_undo_4 ?_
  refine lv_if_ne (tgt := 18) hx hb dX12_undo_7 (by decide) (fun hcd => ?_) (fun hcd => ?_)
  · rw [if_neg hcd] at hf
    refine lv_aload_n hx hb dX12_undo_18 rfl (lv_at hl 0 rfl) ?_
    refine mm_get hC hM (k := 2) hc_this rfl inAX12 (by decide) q2_18 rfl dX12_undo_19 ?_
    refine lv_aload_n hx hb dX12_undo_22 rfl (lv_at hl 0 rfl) ?_
    refine mm_get hC hM (k := 0) hc_this rfl inAX12 (by decide) q2_16 rfl dX12_undo_23 ?_
    obtain ⟨q26, hq26, hf⟩ := mm_bd hf
    refine mm_Vv (rest := []) hC hM (c_X4_takeBack l hq26 hp_this_history hp_this_marsh (by omega)) q6_227 q1_7 ykX4_takeBack q6_224 q6_225 q6_226 hp_this_history.1 rfl ⟨rfl, rfl⟩ ⟨Nat.le_of_ble_eq_true rfl, Nat.le_of_ble_eq_true rfl⟩ rfl hl.1 rfl (Nat.le_of_ble_eq_true rfl) dX12_undo_26 ⟨Nat.le_of_ble_eq_true rfl, Nat.le_of_ble_eq_true rfl⟩ (fun w26 H locs hM hw => ?_)
    obtain ⟨hn_this, hn_p1, hfr⟩ := hw
    have hc_this := hfr.keep hc_this (by omega) (by omega)
    have hp_this_spareMoves := hfr.keep hp_this_spareMoves (by omega) (by omega)
    have hp_this_snapshot := hp_this_snapshot.keep2 hfr (by omega) (by omega)
    have hp_this_ways := hp_this_ways.keep2 hfr (by omega) (by omega)
    have hp_this_pairing := hp_this_pairing.keep2 hfr (by omega) (by omega)
    have hp_this_reader := hp_this_reader.keep2 hfr (by omega) (by omega)
    have hp_this_commandText := hp_this_commandText.keep2 hfr (by omega) (by omega)
    have hp_this_line := hp_this_line.keep2 hfr (by omega) (by omega)
    have hp_this_history := hn_this
    have hp_this_marsh := hn_p1
    have hF := hF.tr (hfr.one (by omega) (by omega) (by omega) (by omega))
    refine lv_aload_n hx hb dX12_undo_29 rfl (lv_at hl 0 rfl) ?_
    refine mm_get hC hM (k := 2) hc_this rfl inAX12 (by decide) q2_18 rfl dX12_undo_30 ?_
    refine mm_get hC hM (k := 2) hp_this_history.1 rfl inAX4 (by decide) q1_172 rfl dX12_undo_33 ?_
    cases hf
    exact hret hM dX12_undo_36 rfl ⟨rfl, rfl, ⟨hc_this, hp_this_marsh, hp_this_snapshot, hp_this_history, hp_this_ways, hp_this_pairing, hp_this_reader, hp_this_commandText, hp_this_line, hp_this_spareMoves⟩, hF⟩ (Nat.le_of_ble_eq_true rfl) (Nat.le_of_ble_eq_true rfl)
  · rw [if_pos hcd] at hf
    cases hf
    exact hthrow (names := ["java/lang/RuntimeException", "java/lang/Exception"]) hM hl.1 (by decide +kernel) (by decide +kernel) q3_238 q1_21 vxa_3 vxb_3 dX12_undo_10 dX12_undo_13 dX12_undo_14 dX12_undo_17 (by decide) (Nat.le_of_ble_eq_true rfl) (Nat.le_of_ble_eq_true rfl) (Nat.le_of_ble_eq_true rfl) ⟨(by simp), rfl, ⟨hc_this, hp_this_marsh, hp_this_snapshot, hp_this_history, hp_this_ways, hp_this_pairing, hp_this_reader, hp_this_commandText, hp_this_line, hp_this_spareMoves⟩, hF⟩
def f_X12_save (marsh_reeds_states : Nat → Int32) (marsh_reeds_count : Int32) (marsh_reeds_broken : Int32) (marsh_fleet_numbers : Nat → Int32) (marsh_fleet_cells : Nat → Int32) (marsh_fleet_fares : Nat → Int32) (marsh_fleet_count : Int32) (marsh_fleet_nextNumber : Int32) (marsh_fleet_total : Int32) (marsh_fleet_removedFares : Int32) (marsh_fleet_meetings : Int32) (marsh_plans_moves : Nat → Int32) (marsh_plans_lengths : Nat → Int32) (marsh_landings_cells : Nat → Int32) (marsh_landings_count : Int32) (marsh_fogSide : Int32) (snapshot_reeds_states : Nat → Int32) (snapshot_fleet_numbers : Nat → Int32) (snapshot_fleet_cells : Nat → Int32) (snapshot_fleet_fares : Nat → Int32) (snapshot_plans_moves : Nat → Int32) (snapshot_plans_lengths : Nat → Int32) (snapshot_landings_cells : Nat → Int32) : Option (Int32 × (Nat → Int32) × Int32 × Int32 × (Nat → Int32) × (Nat → Int32) × (Nat → Int32) × Int32 × Int32 × Int32 × Int32 × Int32 × (Nat → Int32) × (Nat → Int32) × (Nat → Int32) × Int32 × Int32 × Int32) := (f_X6_copyFrom snapshot_reeds_states snapshot_fleet_numbers snapshot_fleet_cells snapshot_fleet_fares snapshot_plans_moves snapshot_plans_lengths snapshot_landings_cells marsh_reeds_states marsh_reeds_count marsh_reeds_broken marsh_fleet_numbers marsh_fleet_cells marsh_fleet_fares marsh_fleet_count marsh_fleet_nextNumber marsh_fleet_total marsh_fleet_removedFares marsh_fleet_meetings marsh_plans_moves marsh_plans_lengths marsh_landings_cells marsh_landings_count marsh_fogSide).bind fun q8 => some (marsh_fleet_count, q8.1, q8.2.1, q8.2.2.1, q8.2.2.2.1, q8.2.2.2.2.1, q8.2.2.2.2.2.1, q8.2.2.2.2.2.2.1, q8.2.2.2.2.2.2.2.1, q8.2.2.2.2.2.2.2.2.1, q8.2.2.2.2.2.2.2.2.2.1, q8.2.2.2.2.2.2.2.2.2.2.1, q8.2.2.2.2.2.2.2.2.2.2.2.1, q8.2.2.2.2.2.2.2.2.2.2.2.2.1, q8.2.2.2.2.2.2.2.2.2.2.2.2.2.1, q8.2.2.2.2.2.2.2.2.2.2.2.2.2.2.1, q8.2.2.2.2.2.2.2.2.2.2.2.2.2.2.2, 1)
set_option maxHeartbeats 4000000 in
set_option maxRecDepth 100000 in
theorem c_X12_save (l : Launch) {G : mm_G} {w : va_W} {sz : Nat} {b : Nat} {marsh_reeds_states : Nat → Int32} {marsh_reeds_count : Int32} {marsh_reeds_broken : Int32} {marsh_fleet_numbers : Nat → Int32} {marsh_fleet_cells : Nat → Int32} {marsh_fleet_fares : Nat → Int32} {marsh_fleet_count : Int32} {marsh_fleet_nextNumber : Int32} {marsh_fleet_total : Int32} {marsh_fleet_removedFares : Int32} {marsh_fleet_meetings : Int32} {marsh_plans_moves : Nat → Int32} {marsh_plans_lengths : Nat → Int32} {marsh_landings_cells : Nat → Int32} {marsh_landings_count : Int32} {marsh_fogSide : Int32} {snapshot_reeds_states : Nat → Int32} {snapshot_reeds_count : Int32} {snapshot_reeds_broken : Int32} {snapshot_fleet_numbers : Nat → Int32} {snapshot_fleet_cells : Nat → Int32} {snapshot_fleet_fares : Nat → Int32} {snapshot_fleet_count : Int32} {snapshot_fleet_nextNumber : Int32} {snapshot_fleet_total : Int32} {snapshot_fleet_removedFares : Int32} {snapshot_fleet_meetings : Int32} {snapshot_plans_moves : Nat → Int32} {snapshot_plans_lengths : Nat → Int32} {snapshot_landings_cells : Nat → Int32} {snapshot_landings_count : Int32} {snapshot_fogSide : Int32} {history_slots : Nat → mm_MV} {history_free : Int32} {history_count : Int32} {ways_tolls : Nat → Int32} {ways_queue : Nat → Int32} {ways_heap : Nat → Int32} {ways_heapSize : Int32} {ways_found : Nat → Int32} {ways_improved : Nat → Int32} {pairing_costs : Nat → Int32} {pairing_best : Nat → Int32} {reader_kinds : Nat → Int32} {reader_starts : Nat → Int32} {reader_count : Int32} {commandText_signs : Nat → Int32} {commandText_length : Int32} {line_signs : Nat → Int32} {line_length : Int32} {spareMoves : Nat → Int32} {snapshotTaken : Int32} {lastErrorPosition : Int32} {lastFailedCommand : Int32} {X : Int32 × (Nat → Int32) × Int32 × Int32 × (Nat → Int32) × (Nat → Int32) × (Nat → Int32) × Int32 × Int32 × Int32 × Int32 × Int32 × (Nat → Int32) × (Nat → Int32) × (Nat → Int32) × Int32 × Int32 × Int32} (hf : f_X12_save marsh_reeds_states marsh_reeds_count marsh_reeds_broken marsh_fleet_numbers marsh_fleet_cells marsh_fleet_fares marsh_fleet_count marsh_fleet_nextNumber marsh_fleet_total marsh_fleet_removedFares marsh_fleet_meetings marsh_plans_moves marsh_plans_lengths marsh_landings_cells marsh_landings_count marsh_fogSide snapshot_reeds_states snapshot_fleet_numbers snapshot_fleet_cells snapshot_fleet_fares snapshot_plans_moves snapshot_plans_lengths snapshot_landings_cells = some X) (hp_this : At12 G w b marsh_reeds_states marsh_reeds_count marsh_reeds_broken marsh_fleet_numbers marsh_fleet_cells marsh_fleet_fares marsh_fleet_count marsh_fleet_nextNumber marsh_fleet_total marsh_fleet_removedFares marsh_fleet_meetings marsh_plans_moves marsh_plans_lengths marsh_landings_cells marsh_landings_count marsh_fogSide snapshot_reeds_states snapshot_reeds_count snapshot_reeds_broken snapshot_fleet_numbers snapshot_fleet_cells snapshot_fleet_fares snapshot_fleet_count snapshot_fleet_nextNumber snapshot_fleet_total snapshot_fleet_removedFares snapshot_fleet_meetings snapshot_plans_moves snapshot_plans_lengths snapshot_landings_cells snapshot_landings_count snapshot_fogSide history_slots history_free history_count ways_tolls ways_queue ways_heap ways_heapSize ways_found ways_improved pairing_costs pairing_best reader_kinds reader_starts reader_count commandText_signs commandText_length line_signs line_length spareMoves snapshotTaken lastErrorPosition lastFailedCommand) : Met l yX12_save (Cond.code yX12_save cX12_save 1 (some .int) :: gAll) ({ frames := 3, cells := 0, slots := 0, locals := 102 }) (va_Pc [.ref b] (mm_Pre G w sz)) (mm_Qi G w sz (fun r w' => r = X.1 ∧ At12 G w' b marsh_reeds_states marsh_reeds_count marsh_reeds_broken marsh_fleet_numbers marsh_fleet_cells marsh_fleet_fares marsh_fleet_count marsh_fleet_nextNumber marsh_fleet_total marsh_fleet_removedFares marsh_fleet_meetings marsh_plans_moves marsh_plans_lengths marsh_landings_cells marsh_landings_count marsh_fogSide X.2.1 X.2.2.1 X.2.2.2.1 X.2.2.2.2.1 X.2.2.2.2.2.1 X.2.2.2.2.2.2.1 X.2.2.2.2.2.2.2.1 X.2.2.2.2.2.2.2.2.1 X.2.2.2.2.2.2.2.2.2.1 X.2.2.2.2.2.2.2.2.2.2.1 X.2.2.2.2.2.2.2.2.2.2.2.1 X.2.2.2.2.2.2.2.2.2.2.2.2.1 X.2.2.2.2.2.2.2.2.2.2.2.2.2.1 X.2.2.2.2.2.2.2.2.2.2.2.2.2.2.1 X.2.2.2.2.2.2.2.2.2.2.2.2.2.2.2.1 X.2.2.2.2.2.2.2.2.2.2.2.2.2.2.2.2.1 history_slots history_free history_count ways_tolls ways_queue ways_heap ways_heapSize ways_found ways_improved pairing_costs pairing_best reader_kinds reader_starts reader_count commandText_signs commandText_length line_signs line_length spareMoves X.2.2.2.2.2.2.2.2.2.2.2.2.2.2.2.2.2 lastErrorPosition lastFailedCommand ∧ mm_fr w w' b (b + 152))) 0 0 (va_A w sz) := by
  refine mm_headI [.ref b] (by decide +kernel) rfl (Nat.le_of_ble_eq_true rfl) ?_
  intro p e s m args below meth c A Q hsz hC hM hret ls hl
  have hx := hC.1.1
  have hb := hC.1.2.1
  have hl : lv_has ls 1 [(0, .ref b)] := hl
  have hF : mm_fr w w b (b + 152) := mm_fr.rf
  rw [f_X12_save] at hf
  obtain ⟨hc_this, hp_this_marsh, hp_this_snapshot, hp_this_history, hp_this_ways, hp_this_pairing, hp_this_reader, hp_this_commandText, hp_this_line, hp_this_spareMoves⟩ := hp_this
  refine lv_aload_n hx hb dX12_save_0 rfl (lv_at hl 0 rfl) ?_
  refine mm_get hC hM (k := 1) hc_this rfl inAX12 (by decide) q2_17 rfl dX12_save_1 ?_
  refine lv_aload_n hx hb dX12_save_4 rfl (lv_at hl 0 rfl) ?_
  refine mm_get hC hM (k := 0) hc_this rfl inAX12 (by decide) q2_16 rfl dX12_save_5 ?_
  obtain ⟨q8, hq8, hf⟩ := mm_bd hf
  refine mm_Vv (rest := []) hC hM (c_X6_copyFrom l hq8 hp_this_snapshot hp_this_marsh (by omega)) q3_67 q1_2 ykX6_copyFrom q3_64 q3_65 q3_66 hp_this_snapshot.1 rfl ⟨rfl, rfl⟩ ⟨Nat.le_of_ble_eq_true rfl, Nat.le_of_ble_eq_true rfl⟩ rfl hl.1 rfl (Nat.le_of_ble_eq_true rfl) dX12_save_8 ⟨Nat.le_of_ble_eq_true rfl, Nat.le_of_ble_eq_true rfl⟩ (fun w8 H locs hM hw => ?_)
  obtain ⟨hn_this, hfr⟩ := hw
  have hc_this := hfr.keep hc_this (by omega)
  have hp_this_spareMoves := hfr.keep hp_this_spareMoves (by omega)
  have hp_this_marsh := hp_this_marsh.keep hfr (by omega)
  have hp_this_history := hp_this_history.keep hfr (by omega)
  have hp_this_ways := hp_this_ways.keep hfr (by omega)
  have hp_this_pairing := hp_this_pairing.keep hfr (by omega)
  have hp_this_reader := hp_this_reader.keep hfr (by omega)
  have hp_this_commandText := hp_this_commandText.keep hfr (by omega)
  have hp_this_line := hp_this_line.keep hfr (by omega)
  have hp_this_snapshot := hn_this
  have hF := hF.tr (hfr.wide (by omega) (by omega))
  refine lv_aload_n hx hb dX12_save_11 rfl (lv_at hl 0 rfl) ?_
  refine lv_iconst (v := 1) hx hb dX12_save_12 (by decide) ?_
  refine mm_put hC hM (k := 9) tyX12 hc_this rfl inAX12 tyX12_ok nmX12 (by decide) q2_25 rfl rfl rfl (by decide) (Nat.le_of_ble_eq_true rfl) dX12_save_13 (fun w13 H locs hM hm => ?_)
  have hc_this := hm.1
  have hp_this_spareMoves := hm.keep hp_this_spareMoves (by omega)
  have hp_this_marsh := hp_this_marsh.up hm (by omega)
  have hp_this_snapshot := hp_this_snapshot.up hm (by omega)
  have hp_this_history := hp_this_history.up hm (by omega)
  have hp_this_ways := hp_this_ways.up hm (by omega)
  have hp_this_pairing := hp_this_pairing.up hm (by omega)
  have hp_this_reader := hp_this_reader.up hm (by omega)
  have hp_this_commandText := hp_this_commandText.up hm (by omega)
  have hp_this_line := hp_this_line.up hm (by omega)
  have hF := hF.tr (hm.fr (by omega) (by omega))
  refine lv_aload_n hx hb dX12_save_16 rfl (lv_at hl 0 rfl) ?_
  refine mm_get hC hM (k := 0) hc_this rfl inAX12 (by decide) q2_16 rfl dX12_save_17 ?_
  refine mm_get hC hM (k := 1) hp_this_marsh.1 rfl inAX6 (by decide) q1_142 rfl dX12_save_20 ?_
  refine mm_get hC hM (k := 3) (hp_this_marsh.2.2.1).1 rfl inAX3 (by decide) q1_83 rfl dX12_save_23 ?_
  cases hf
  exact hret hM dX12_save_26 rfl ⟨rfl, ⟨hc_this, hp_this_marsh, hp_this_snapshot, hp_this_history, hp_this_ways, hp_this_pairing, hp_this_reader, hp_this_commandText, hp_this_line, hp_this_spareMoves⟩, hF⟩
def f_X12_restore (marsh_reeds_states : Nat → Int32) (marsh_reeds_count : Int32) (marsh_reeds_broken : Int32) (marsh_fleet_numbers : Nat → Int32) (marsh_fleet_cells : Nat → Int32) (marsh_fleet_fares : Nat → Int32) (marsh_fleet_count : Int32) (marsh_fleet_nextNumber : Int32) (marsh_fleet_total : Int32) (marsh_fleet_removedFares : Int32) (marsh_fleet_meetings : Int32) (marsh_plans_moves : Nat → Int32) (marsh_plans_lengths : Nat → Int32) (marsh_landings_cells : Nat → Int32) (marsh_landings_count : Int32) (marsh_fogSide : Int32) (snapshot_reeds_states : Nat → Int32) (snapshot_reeds_count : Int32) (snapshot_reeds_broken : Int32) (snapshot_fleet_numbers : Nat → Int32) (snapshot_fleet_cells : Nat → Int32) (snapshot_fleet_fares : Nat → Int32) (snapshot_fleet_count : Int32) (snapshot_fleet_nextNumber : Int32) (snapshot_fleet_total : Int32) (snapshot_fleet_removedFares : Int32) (snapshot_fleet_meetings : Int32) (snapshot_plans_moves : Nat → Int32) (snapshot_plans_lengths : Nat → Int32) (snapshot_landings_cells : Nat → Int32) (snapshot_landings_count : Int32) (snapshot_fogSide : Int32) (history_count : Int32) (snapshotTaken : Int32) : Option (Nat × Int32 × (Nat → Int32) × Int32 × Int32 × (Nat → Int32) × (Nat → Int32) × (Nat → Int32) × Int32 × Int32 × Int32 × Int32 × Int32 × (Nat → Int32) × (Nat → Int32) × (Nat → Int32) × Int32 × Int32 × Int32) := if snapshotTaken = 0 then some (3, 0, marsh_reeds_states, marsh_reeds_count, marsh_reeds_broken, marsh_fleet_numbers, marsh_fleet_cells, marsh_fleet_fares, marsh_fleet_count, marsh_fleet_nextNumber, marsh_fleet_total, marsh_fleet_removedFares, marsh_fleet_meetings, marsh_plans_moves, marsh_plans_lengths, marsh_landings_cells, marsh_landings_count, marsh_fogSide, history_count) else (f_X6_copyFrom marsh_reeds_states marsh_fleet_numbers marsh_fleet_cells marsh_fleet_fares marsh_plans_moves marsh_plans_lengths marsh_landings_cells snapshot_reeds_states snapshot_reeds_count snapshot_reeds_broken snapshot_fleet_numbers snapshot_fleet_cells snapshot_fleet_fares snapshot_fleet_count snapshot_fleet_nextNumber snapshot_fleet_total snapshot_fleet_removedFares snapshot_fleet_meetings snapshot_plans_moves snapshot_plans_lengths snapshot_landings_cells snapshot_landings_count snapshot_fogSide).bind fun q23 => (f_X4_forget).bind fun q30 => some (0, q23.2.2.2.2.2.2.1, q23.1, q23.2.1, q23.2.2.1, q23.2.2.2.1, q23.2.2.2.2.1, q23.2.2.2.2.2.1, q23.2.2.2.2.2.2.1, q23.2.2.2.2.2.2.2.1, q23.2.2.2.2.2.2.2.2.1, q23.2.2.2.2.2.2.2.2.2.1, q23.2.2.2.2.2.2.2.2.2.2.1, q23.2.2.2.2.2.2.2.2.2.2.2.1, q23.2.2.2.2.2.2.2.2.2.2.2.2.1, q23.2.2.2.2.2.2.2.2.2.2.2.2.2.1, q23.2.2.2.2.2.2.2.2.2.2.2.2.2.2.1, q23.2.2.2.2.2.2.2.2.2.2.2.2.2.2.2, q30)
set_option maxHeartbeats 4000000 in
set_option maxRecDepth 100000 in
theorem c_X12_restore (l : Launch) (hfl : l.stackTraces = false) {G : mm_G} {w : va_W} {sz : Nat} {b : Nat} {marsh_reeds_states : Nat → Int32} {marsh_reeds_count : Int32} {marsh_reeds_broken : Int32} {marsh_fleet_numbers : Nat → Int32} {marsh_fleet_cells : Nat → Int32} {marsh_fleet_fares : Nat → Int32} {marsh_fleet_count : Int32} {marsh_fleet_nextNumber : Int32} {marsh_fleet_total : Int32} {marsh_fleet_removedFares : Int32} {marsh_fleet_meetings : Int32} {marsh_plans_moves : Nat → Int32} {marsh_plans_lengths : Nat → Int32} {marsh_landings_cells : Nat → Int32} {marsh_landings_count : Int32} {marsh_fogSide : Int32} {snapshot_reeds_states : Nat → Int32} {snapshot_reeds_count : Int32} {snapshot_reeds_broken : Int32} {snapshot_fleet_numbers : Nat → Int32} {snapshot_fleet_cells : Nat → Int32} {snapshot_fleet_fares : Nat → Int32} {snapshot_fleet_count : Int32} {snapshot_fleet_nextNumber : Int32} {snapshot_fleet_total : Int32} {snapshot_fleet_removedFares : Int32} {snapshot_fleet_meetings : Int32} {snapshot_plans_moves : Nat → Int32} {snapshot_plans_lengths : Nat → Int32} {snapshot_landings_cells : Nat → Int32} {snapshot_landings_count : Int32} {snapshot_fogSide : Int32} {history_slots : Nat → mm_MV} {history_free : Int32} {history_count : Int32} {ways_tolls : Nat → Int32} {ways_queue : Nat → Int32} {ways_heap : Nat → Int32} {ways_heapSize : Int32} {ways_found : Nat → Int32} {ways_improved : Nat → Int32} {pairing_costs : Nat → Int32} {pairing_best : Nat → Int32} {reader_kinds : Nat → Int32} {reader_starts : Nat → Int32} {reader_count : Int32} {commandText_signs : Nat → Int32} {commandText_length : Int32} {line_signs : Nat → Int32} {line_length : Int32} {spareMoves : Nat → Int32} {snapshotTaken : Int32} {lastErrorPosition : Int32} {lastFailedCommand : Int32} {X : Nat × Int32 × (Nat → Int32) × Int32 × Int32 × (Nat → Int32) × (Nat → Int32) × (Nat → Int32) × Int32 × Int32 × Int32 × Int32 × Int32 × (Nat → Int32) × (Nat → Int32) × (Nat → Int32) × Int32 × Int32 × Int32} (hf : f_X12_restore marsh_reeds_states marsh_reeds_count marsh_reeds_broken marsh_fleet_numbers marsh_fleet_cells marsh_fleet_fares marsh_fleet_count marsh_fleet_nextNumber marsh_fleet_total marsh_fleet_removedFares marsh_fleet_meetings marsh_plans_moves marsh_plans_lengths marsh_landings_cells marsh_landings_count marsh_fogSide snapshot_reeds_states snapshot_reeds_count snapshot_reeds_broken snapshot_fleet_numbers snapshot_fleet_cells snapshot_fleet_fares snapshot_fleet_count snapshot_fleet_nextNumber snapshot_fleet_total snapshot_fleet_removedFares snapshot_fleet_meetings snapshot_plans_moves snapshot_plans_lengths snapshot_landings_cells snapshot_landings_count snapshot_fogSide history_count snapshotTaken = some X) (hp_this : At12 G w b marsh_reeds_states marsh_reeds_count marsh_reeds_broken marsh_fleet_numbers marsh_fleet_cells marsh_fleet_fares marsh_fleet_count marsh_fleet_nextNumber marsh_fleet_total marsh_fleet_removedFares marsh_fleet_meetings marsh_plans_moves marsh_plans_lengths marsh_landings_cells marsh_landings_count marsh_fogSide snapshot_reeds_states snapshot_reeds_count snapshot_reeds_broken snapshot_fleet_numbers snapshot_fleet_cells snapshot_fleet_fares snapshot_fleet_count snapshot_fleet_nextNumber snapshot_fleet_total snapshot_fleet_removedFares snapshot_fleet_meetings snapshot_plans_moves snapshot_plans_lengths snapshot_landings_cells snapshot_landings_count snapshot_fogSide history_slots history_free history_count ways_tolls ways_queue ways_heap ways_heapSize ways_found ways_improved pairing_costs pairing_best reader_kinds reader_starts reader_count commandText_signs commandText_length line_signs line_length spareMoves snapshotTaken lastErrorPosition lastFailedCommand) : vx_Met l yX12_restore (Cond.code yX12_restore cX12_restore 1 (some .int) :: gAll) ({ frames := 7, cells := 1, slots := 6, locals := 120 }) (va_Pc [.ref b] (mm_Pre G w sz)) (mm_Qi G w sz (fun r w' => X.1 = 0 ∧ r = X.2.1 ∧ At12 G w' b X.2.2.1 X.2.2.2.1 X.2.2.2.2.1 X.2.2.2.2.2.1 X.2.2.2.2.2.2.1 X.2.2.2.2.2.2.2.1 X.2.2.2.2.2.2.2.2.1 X.2.2.2.2.2.2.2.2.2.1 X.2.2.2.2.2.2.2.2.2.2.1 X.2.2.2.2.2.2.2.2.2.2.2.1 X.2.2.2.2.2.2.2.2.2.2.2.2.1 X.2.2.2.2.2.2.2.2.2.2.2.2.2.1 X.2.2.2.2.2.2.2.2.2.2.2.2.2.2.1 X.2.2.2.2.2.2.2.2.2.2.2.2.2.2.2.1 X.2.2.2.2.2.2.2.2.2.2.2.2.2.2.2.2.1 X.2.2.2.2.2.2.2.2.2.2.2.2.2.2.2.2.2.1 snapshot_reeds_states snapshot_reeds_count snapshot_reeds_broken snapshot_fleet_numbers snapshot_fleet_cells snapshot_fleet_fares snapshot_fleet_count snapshot_fleet_nextNumber snapshot_fleet_total snapshot_fleet_removedFares snapshot_fleet_meetings snapshot_plans_moves snapshot_plans_lengths snapshot_landings_cells snapshot_landings_count snapshot_fogSide history_slots history_free X.2.2.2.2.2.2.2.2.2.2.2.2.2.2.2.2.2.2 ways_tolls ways_queue ways_heap ways_heapSize ways_found ways_improved pairing_costs pairing_best reader_kinds reader_starts reader_count commandText_signs commandText_length line_signs line_length spareMoves snapshotTaken lastErrorPosition lastFailedCommand ∧ mm_fr w w' b (b + 152))) (mm_QX G w sz (fun E w' => X.1 ≠ 0 ∧ E = mm_ex X.1 ∧ At12 G w' b X.2.2.1 X.2.2.2.1 X.2.2.2.2.1 X.2.2.2.2.2.1 X.2.2.2.2.2.2.1 X.2.2.2.2.2.2.2.1 X.2.2.2.2.2.2.2.2.1 X.2.2.2.2.2.2.2.2.2.1 X.2.2.2.2.2.2.2.2.2.2.1 X.2.2.2.2.2.2.2.2.2.2.2.1 X.2.2.2.2.2.2.2.2.2.2.2.2.1 X.2.2.2.2.2.2.2.2.2.2.2.2.2.1 X.2.2.2.2.2.2.2.2.2.2.2.2.2.2.1 X.2.2.2.2.2.2.2.2.2.2.2.2.2.2.2.1 X.2.2.2.2.2.2.2.2.2.2.2.2.2.2.2.2.1 X.2.2.2.2.2.2.2.2.2.2.2.2.2.2.2.2.2.1 snapshot_reeds_states snapshot_reeds_count snapshot_reeds_broken snapshot_fleet_numbers snapshot_fleet_cells snapshot_fleet_fares snapshot_fleet_count snapshot_fleet_nextNumber snapshot_fleet_total snapshot_fleet_removedFares snapshot_fleet_meetings snapshot_plans_moves snapshot_plans_lengths snapshot_landings_cells snapshot_landings_count snapshot_fogSide history_slots history_free X.2.2.2.2.2.2.2.2.2.2.2.2.2.2.2.2.2.2 ways_tolls ways_queue ways_heap ways_heapSize ways_found ways_improved pairing_costs pairing_best reader_kinds reader_starts reader_count commandText_signs commandText_length line_signs line_length spareMoves snapshotTaken lastErrorPosition lastFailedCommand ∧ mm_fr w w' b (b + 152))) 1 6 (va_A w sz) := by
  refine mm_xheadI hfl [.ref b] (by decide +kernel) rfl (Nat.le_of_ble_eq_true rfl) rfl rfl ?_
  intro p e s m args below meth c A Q hsz hC hM hret hprop hthrow ls hl
  have hx := hC.1.1
  have hb := hC.1.2.1
  have hl : lv_has ls 1 [(0, .ref b)] := hl
  have hF : mm_fr w w b (b + 152) := mm_fr.rf
  rw [f_X12_restore] at hf
  obtain ⟨hc_this, hp_this_marsh, hp_this_snapshot, hp_this_history, hp_this_ways, hp_this_pairing, hp_this_reader, hp_this_commandText, hp_this_line, hp_this_spareMoves⟩ := hp_this
  refine lv_aload_n hx hb dX12_restore_0 rfl (lv_at hl 0 rfl) ?_
  refine mm_get hC hM (k := 9) hc_this rfl inAX12 (by decide) q2_25 rfl dX12_restore_1 ?_
  refine lv_if_ne (tgt := 15) hx hb dX12_restore_4 (by decide) (fun hcd => ?_) (fun hcd => ?_)
  · rw [if_neg hcd] at hf
    refine lv_aload_n hx hb dX12_restore_15 rfl (lv_at hl 0 rfl) ?_
    refine mm_get hC hM (k := 0) hc_this rfl inAX12 (by decide) q2_16 rfl dX12_restore_16 ?_
    refine lv_aload_n hx hb dX12_restore_19 rfl (lv_at hl 0 rfl) ?_
    refine mm_get hC hM (k := 1) hc_this rfl inAX12 (by decide) q2_17 rfl dX12_restore_20 ?_
    obtain ⟨q23, hq23, hf⟩ := mm_bd hf
    refine mm_Vv (rest := []) hC hM (c_X6_copyFrom l hq23 hp_this_marsh hp_this_snapshot (by omega)) q3_67 q1_2 ykX6_copyFrom q3_64 q3_65 q3_66 hp_this_marsh.1 rfl ⟨rfl, rfl⟩ ⟨Nat.le_of_ble_eq_true rfl, Nat.le_of_ble_eq_true rfl⟩ rfl hl.1 rfl (Nat.le_of_ble_eq_true rfl) dX12_restore_23 ⟨Nat.le_of_ble_eq_true rfl, Nat.le_of_ble_eq_true rfl⟩ (fun w23 H locs hM hw => ?_)
    obtain ⟨hn_this, hfr⟩ := hw
    have hc_this := hfr.keep hc_this (by omega)
    have hp_this_spareMoves := hfr.keep hp_this_spareMoves (by omega)
    have hp_this_snapshot := hp_this_snapshot.keep hfr (by omega)
    have hp_this_history := hp_this_history.keep hfr (by omega)
    have hp_this_ways := hp_this_ways.keep hfr (by omega)
    have hp_this_pairing := hp_this_pairing.keep hfr (by omega)
    have hp_this_reader := hp_this_reader.keep hfr (by omega)
    have hp_this_commandText := hp_this_commandText.keep hfr (by omega)
    have hp_this_line := hp_this_line.keep hfr (by omega)
    have hp_this_marsh := hn_this
    have hF := hF.tr (hfr.wide (by omega) (by omega))
    refine lv_aload_n hx hb dX12_restore_26 rfl (lv_at hl 0 rfl) ?_
    refine mm_get hC hM (k := 2) hc_this rfl inAX12 (by decide) q2_18 rfl dX12_restore_27 ?_
    obtain ⟨q30, hq30, hf⟩ := mm_bd hf
    refine mm_Vv (rest := []) hC hM (c_X4_forget l hq30 hp_this_history) q6_238 q1_7 ykX4_forget q6_235 q6_236 q6_237 hp_this_history.1 rfl ⟨rfl, rfl⟩ ⟨Nat.le_of_ble_eq_true rfl, Nat.le_of_ble_eq_true rfl⟩ rfl hl.1 rfl (Nat.le_of_ble_eq_true rfl) dX12_restore_30 ⟨Nat.le_of_ble_eq_true rfl, Nat.le_of_ble_eq_true rfl⟩ (fun w30 H locs hM hw => ?_)
    obtain ⟨hn_this, hfr⟩ := hw
    have hc_this := hfr.keep hc_this (by omega)
    have hp_this_spareMoves := hfr.keep hp_this_spareMoves (by omega)
    have hp_this_marsh := hp_this_marsh.keep hfr (by omega)
    have hp_this_snapshot := hp_this_snapshot.keep hfr (by omega)
    have hp_this_ways := hp_this_ways.keep hfr (by omega)
    have hp_this_pairing := hp_this_pairing.keep hfr (by omega)
    have hp_this_reader := hp_this_reader.keep hfr (by omega)
    have hp_this_commandText := hp_this_commandText.keep hfr (by omega)
    have hp_this_line := hp_this_line.keep hfr (by omega)
    have hp_this_history := hn_this
    have hF := hF.tr (hfr.wide (by omega) (by omega))
    refine lv_aload_n hx hb dX12_restore_33 rfl (lv_at hl 0 rfl) ?_
    refine mm_get hC hM (k := 0) hc_this rfl inAX12 (by decide) q2_16 rfl dX12_restore_34 ?_
    refine mm_get hC hM (k := 1) hp_this_marsh.1 rfl inAX6 (by decide) q1_142 rfl dX12_restore_37 ?_
    refine mm_get hC hM (k := 3) (hp_this_marsh.2.2.1).1 rfl inAX3 (by decide) q1_83 rfl dX12_restore_40 ?_
    cases hf
    exact hret hM dX12_restore_43 rfl ⟨rfl, rfl, ⟨hc_this, hp_this_marsh, hp_this_snapshot, hp_this_history, hp_this_ways, hp_this_pairing, hp_this_reader, hp_this_commandText, hp_this_line, hp_this_spareMoves⟩, hF⟩ (Nat.le_of_ble_eq_true rfl) (Nat.le_of_ble_eq_true rfl)
  · rw [if_pos hcd] at hf
    cases hf
    exact hthrow (names := ["java/lang/RuntimeException", "java/lang/Exception"]) hM hl.1 (by decide +kernel) (by decide +kernel) q3_238 q1_21 vxa_3 vxb_3 dX12_restore_7 dX12_restore_10 dX12_restore_11 dX12_restore_14 (by decide) (Nat.le_of_ble_eq_true rfl) (Nat.le_of_ble_eq_true rfl) (Nat.le_of_ble_eq_true rfl) ⟨(by simp), rfl, ⟨hc_this, hp_this_marsh, hp_this_snapshot, hp_this_history, hp_this_ways, hp_this_pairing, hp_this_reader, hp_this_commandText, hp_this_line, hp_this_spareMoves⟩, hF⟩
